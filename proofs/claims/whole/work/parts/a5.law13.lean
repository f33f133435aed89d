/-! the law's instructions, 13 -/
theorem dL_law_2078 : decode cL_law 2078 = .ok (.ifCond .eq 916, 3) := by decide +kernel
theorem dL_law_2081 : decode cL_law 2081 = .ok (.iconst 0, 1) := by decide +kernel
theorem dL_law_2082 : decode cL_law 2082 = .ok (.ireturn, 1) := by decide +kernel
theorem dL_law_2083 : decode cL_law 2083 = .ok (.aload_n 1, 1) := by decide +kernel
theorem dL_law_2084 : decode cL_law 2084 = .ok (.invokevirtual 297, 3) := by decide +kernel
theorem dL_law_2087 : decode cL_law 2087 = .ok (.aload_n 2, 1) := by decide +kernel
theorem dL_law_2088 : decode cL_law 2088 = .ok (.invokevirtual 300, 3) := by decide +kernel
theorem dL_law_2091 : decode cL_law 2091 = .ok (.lcmp, 1) := by decide +kernel
theorem dL_law_2092 : decode cL_law 2092 = .ok (.ifCond .eq 902, 3) := by decide +kernel
theorem dL_law_2095 : decode cL_law 2095 = .ok (.iconst 0, 1) := by decide +kernel
theorem dL_law_2096 : decode cL_law 2096 = .ok (.ireturn, 1) := by decide +kernel
theorem dL_law_2097 : decode cL_law 2097 = .ok (.aload_n 1, 1) := by decide +kernel
theorem dL_law_2098 : decode cL_law 2098 = .ok (.aload_n 0, 1) := by decide +kernel
theorem dL_law_2099 : decode cL_law 2099 = .ok (.iload 5, 2) := by decide +kernel
theorem dL_law_2101 : decode cL_law 2101 = .ok (.iconst 1, 1) := by decide +kernel
theorem dL_law_2102 : decode cL_law 2102 = .ok (.iadd, 1) := by decide +kernel
theorem dL_law_2103 : decode cL_law 2103 = .ok (.iaload, 1) := by decide +kernel
theorem dL_law_2104 : decode cL_law 2104 = .ok (.i2c, 1) := by decide +kernel
theorem dL_law_2105 : decode cL_law 2105 = .ok (.aload_n 0, 1) := by decide +kernel
theorem dL_law_2106 : decode cL_law 2106 = .ok (.iload 5, 2) := by decide +kernel
theorem dL_law_2108 : decode cL_law 2108 = .ok (.iconst 2, 1) := by decide +kernel
theorem dL_law_2109 : decode cL_law 2109 = .ok (.iadd, 1) := by decide +kernel
theorem dL_law_2110 : decode cL_law 2110 = .ok (.iaload, 1) := by decide +kernel
theorem dL_law_2111 : decode cL_law 2111 = .ok (.aload_n 3, 1) := by decide +kernel
theorem dL_law_2112 : decode cL_law 2112 = .ok (.invokestatic 301, 3) := by decide +kernel
theorem dL_law_2115 : decode cL_law 2115 = .ok (.istore 6, 2) := by decide +kernel
theorem dL_law_2117 : decode cL_law 2117 = .ok (.aload_n 2, 1) := by decide +kernel
theorem dL_law_2118 : decode cL_law 2118 = .ok (.aload_n 0, 1) := by decide +kernel
theorem dL_law_2119 : decode cL_law 2119 = .ok (.iload 5, 2) := by decide +kernel
theorem dL_law_2121 : decode cL_law 2121 = .ok (.iconst 1, 1) := by decide +kernel
theorem dL_law_2122 : decode cL_law 2122 = .ok (.iadd, 1) := by decide +kernel
theorem dL_law_2123 : decode cL_law 2123 = .ok (.iaload, 1) := by decide +kernel
theorem dL_law_2124 : decode cL_law 2124 = .ok (.i2c, 1) := by decide +kernel
theorem dL_law_2125 : decode cL_law 2125 = .ok (.aload_n 0, 1) := by decide +kernel
theorem dL_law_2126 : decode cL_law 2126 = .ok (.iload 5, 2) := by decide +kernel
theorem dL_law_2128 : decode cL_law 2128 = .ok (.iconst 2, 1) := by decide +kernel
theorem dL_law_2129 : decode cL_law 2129 = .ok (.iadd, 1) := by decide +kernel
theorem dL_law_2130 : decode cL_law 2130 = .ok (.iaload, 1) := by decide +kernel
theorem dL_law_2131 : decode cL_law 2131 = .ok (.invokevirtual 303, 3) := by decide +kernel
theorem dL_law_2134 : decode cL_law 2134 = .ok (.istore 7, 2) := by decide +kernel
theorem dL_law_2136 : decode cL_law 2136 = .ok (.aload_n 2, 1) := by decide +kernel
theorem dL_law_2137 : decode cL_law 2137 = .ok (.invokevirtual 171, 3) := by decide +kernel
theorem dL_law_2140 : decode cL_law 2140 = .ok (.iload 6, 2) := by decide +kernel
theorem dL_law_2142 : decode cL_law 2142 = .ok (.if_icmp .eq 5, 3) := by decide +kernel
theorem dL_law_2145 : decode cL_law 2145 = .ok (.iconst 0, 1) := by decide +kernel
theorem dL_law_2146 : decode cL_law 2146 = .ok (.ireturn, 1) := by decide +kernel
theorem dL_law_2147 : decode cL_law 2147 = .ok (.iload 6, 2) := by decide +kernel
theorem dL_law_2149 : decode cL_law 2149 = .ok (.ifCond .ne 15, 3) := by decide +kernel
theorem dL_law_2152 : decode cL_law 2152 = .ok (.aload_n 3, 1) := by decide +kernel
theorem dL_law_2153 : decode cL_law 2153 = .ok (.iconst 0, 1) := by decide +kernel
theorem dL_law_2154 : decode cL_law 2154 = .ok (.laload, 1) := by decide +kernel
theorem dL_law_2155 : decode cL_law 2155 = .ok (.iload 7, 2) := by decide +kernel
theorem dL_law_2157 : decode cL_law 2157 = .ok (.i2l, 1) := by decide +kernel
theorem dL_law_2158 : decode cL_law 2158 = .ok (.lcmp, 1) := by decide +kernel
theorem dL_law_2159 : decode cL_law 2159 = .ok (.ifCond .eq 5, 3) := by decide +kernel
theorem dL_law_2162 : decode cL_law 2162 = .ok (.iconst 0, 1) := by decide +kernel
theorem dL_law_2163 : decode cL_law 2163 = .ok (.ireturn, 1) := by decide +kernel
theorem dL_law_2164 : decode cL_law 2164 = .ok (.goto 830, 3) := by decide +kernel
theorem dL_law_2167 : decode cL_law 2167 = .ok (.aload_n 1, 1) := by decide +kernel
theorem dL_law_2168 : decode cL_law 2168 = .ok (.aload_n 3, 1) := by decide +kernel
theorem dL_law_2169 : decode cL_law 2169 = .ok (.invokestatic 304, 3) := by decide +kernel
theorem dL_law_2172 : decode cL_law 2172 = .ok (.istore 6, 2) := by decide +kernel
theorem dL_law_2174 : decode cL_law 2174 = .ok (.aload_n 2, 1) := by decide +kernel
theorem dL_law_2175 : decode cL_law 2175 = .ok (.invokevirtual 306, 3) := by decide +kernel
theorem dL_law_2178 : decode cL_law 2178 = .ok (.istore 7, 2) := by decide +kernel
theorem dL_law_2180 : decode cL_law 2180 = .ok (.aload_n 2, 1) := by decide +kernel
theorem dL_law_2181 : decode cL_law 2181 = .ok (.invokevirtual 171, 3) := by decide +kernel
theorem dL_law_2184 : decode cL_law 2184 = .ok (.iload 6, 2) := by decide +kernel
theorem dL_law_2186 : decode cL_law 2186 = .ok (.if_icmp .eq 5, 3) := by decide +kernel
theorem dL_law_2189 : decode cL_law 2189 = .ok (.iconst 0, 1) := by decide +kernel
theorem dL_law_2190 : decode cL_law 2190 = .ok (.ireturn, 1) := by decide +kernel
theorem dL_law_2191 : decode cL_law 2191 = .ok (.iload 6, 2) := by decide +kernel
theorem dL_law_2193 : decode cL_law 2193 = .ok (.ifCond .ne 15, 3) := by decide +kernel
theorem dL_law_2196 : decode cL_law 2196 = .ok (.aload_n 3, 1) := by decide +kernel
theorem dL_law_2197 : decode cL_law 2197 = .ok (.iconst 0, 1) := by decide +kernel
theorem dL_law_2198 : decode cL_law 2198 = .ok (.laload, 1) := by decide +kernel
theorem dL_law_2199 : decode cL_law 2199 = .ok (.iload 7, 2) := by decide +kernel
theorem dL_law_2201 : decode cL_law 2201 = .ok (.i2l, 1) := by decide +kernel
theorem dL_law_2202 : decode cL_law 2202 = .ok (.lcmp, 1) := by decide +kernel
theorem dL_law_2203 : decode cL_law 2203 = .ok (.ifCond .eq 5, 3) := by decide +kernel
theorem dL_law_2206 : decode cL_law 2206 = .ok (.iconst 0, 1) := by decide +kernel
theorem dL_law_2207 : decode cL_law 2207 = .ok (.ireturn, 1) := by decide +kernel
theorem dL_law_2208 : decode cL_law 2208 = .ok (.goto 786, 3) := by decide +kernel
theorem dL_law_2211 : decode cL_law 2211 = .ok (.aload_n 1, 1) := by decide +kernel
theorem dL_law_2212 : decode cL_law 2212 = .ok (.aload_n 0, 1) := by decide +kernel
theorem dL_law_2213 : decode cL_law 2213 = .ok (.iload 5, 2) := by decide +kernel
theorem dL_law_2215 : decode cL_law 2215 = .ok (.iconst 1, 1) := by decide +kernel
theorem dL_law_2216 : decode cL_law 2216 = .ok (.iadd, 1) := by decide +kernel
theorem dL_law_2217 : decode cL_law 2217 = .ok (.iaload, 1) := by decide +kernel
theorem dL_law_2218 : decode cL_law 2218 = .ok (.aload_n 3, 1) := by decide +kernel
