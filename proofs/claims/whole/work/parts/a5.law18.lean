/-! the law's instructions, 18 -/
theorem dL_law_2813 : decode cL_law 2813 = .ok (.invokevirtual 347, 3) := by decide +kernel
theorem dL_law_2816 : decode cL_law 2816 = .ok (.istore 7, 2) := by decide +kernel
theorem dL_law_2818 : decode cL_law 2818 = .ok (.aload_n 2, 1) := by decide +kernel
theorem dL_law_2819 : decode cL_law 2819 = .ok (.invokevirtual 171, 3) := by decide +kernel
theorem dL_law_2822 : decode cL_law 2822 = .ok (.iload 6, 2) := by decide +kernel
theorem dL_law_2824 : decode cL_law 2824 = .ok (.if_icmp .eq 5, 3) := by decide +kernel
theorem dL_law_2827 : decode cL_law 2827 = .ok (.iconst 0, 1) := by decide +kernel
theorem dL_law_2828 : decode cL_law 2828 = .ok (.ireturn, 1) := by decide +kernel
theorem dL_law_2829 : decode cL_law 2829 = .ok (.iload 6, 2) := by decide +kernel
theorem dL_law_2831 : decode cL_law 2831 = .ok (.ifCond .ne 15, 3) := by decide +kernel
theorem dL_law_2834 : decode cL_law 2834 = .ok (.aload_n 3, 1) := by decide +kernel
theorem dL_law_2835 : decode cL_law 2835 = .ok (.iconst 0, 1) := by decide +kernel
theorem dL_law_2836 : decode cL_law 2836 = .ok (.laload, 1) := by decide +kernel
theorem dL_law_2837 : decode cL_law 2837 = .ok (.iload 7, 2) := by decide +kernel
theorem dL_law_2839 : decode cL_law 2839 = .ok (.i2l, 1) := by decide +kernel
theorem dL_law_2840 : decode cL_law 2840 = .ok (.lcmp, 1) := by decide +kernel
theorem dL_law_2841 : decode cL_law 2841 = .ok (.ifCond .eq 5, 3) := by decide +kernel
theorem dL_law_2844 : decode cL_law 2844 = .ok (.iconst 0, 1) := by decide +kernel
theorem dL_law_2845 : decode cL_law 2845 = .ok (.ireturn, 1) := by decide +kernel
theorem dL_law_2846 : decode cL_law 2846 = .ok (.goto 148, 3) := by decide +kernel
theorem dL_law_2849 : decode cL_law 2849 = .ok (.aload_n 1, 1) := by decide +kernel
theorem dL_law_2850 : decode cL_law 2850 = .ok (.aload_n 3, 1) := by decide +kernel
theorem dL_law_2851 : decode cL_law 2851 = .ok (.invokestatic 348, 3) := by decide +kernel
theorem dL_law_2854 : decode cL_law 2854 = .ok (.istore 6, 2) := by decide +kernel
theorem dL_law_2856 : decode cL_law 2856 = .ok (.aload_n 2, 1) := by decide +kernel
theorem dL_law_2857 : decode cL_law 2857 = .ok (.invokevirtual 350, 3) := by decide +kernel
theorem dL_law_2860 : decode cL_law 2860 = .ok (.istore 7, 2) := by decide +kernel
theorem dL_law_2862 : decode cL_law 2862 = .ok (.aload_n 2, 1) := by decide +kernel
theorem dL_law_2863 : decode cL_law 2863 = .ok (.invokevirtual 171, 3) := by decide +kernel
theorem dL_law_2866 : decode cL_law 2866 = .ok (.iload 6, 2) := by decide +kernel
theorem dL_law_2868 : decode cL_law 2868 = .ok (.if_icmp .eq 5, 3) := by decide +kernel
theorem dL_law_2871 : decode cL_law 2871 = .ok (.iconst 0, 1) := by decide +kernel
theorem dL_law_2872 : decode cL_law 2872 = .ok (.ireturn, 1) := by decide +kernel
theorem dL_law_2873 : decode cL_law 2873 = .ok (.iload 6, 2) := by decide +kernel
theorem dL_law_2875 : decode cL_law 2875 = .ok (.ifCond .ne 15, 3) := by decide +kernel
theorem dL_law_2878 : decode cL_law 2878 = .ok (.aload_n 3, 1) := by decide +kernel
theorem dL_law_2879 : decode cL_law 2879 = .ok (.iconst 0, 1) := by decide +kernel
theorem dL_law_2880 : decode cL_law 2880 = .ok (.laload, 1) := by decide +kernel
theorem dL_law_2881 : decode cL_law 2881 = .ok (.iload 7, 2) := by decide +kernel
theorem dL_law_2883 : decode cL_law 2883 = .ok (.i2l, 1) := by decide +kernel
theorem dL_law_2884 : decode cL_law 2884 = .ok (.lcmp, 1) := by decide +kernel
theorem dL_law_2885 : decode cL_law 2885 = .ok (.ifCond .eq 5, 3) := by decide +kernel
theorem dL_law_2888 : decode cL_law 2888 = .ok (.iconst 0, 1) := by decide +kernel
theorem dL_law_2889 : decode cL_law 2889 = .ok (.ireturn, 1) := by decide +kernel
theorem dL_law_2890 : decode cL_law 2890 = .ok (.goto 104, 3) := by decide +kernel
theorem dL_law_2893 : decode cL_law 2893 = .ok (.aload_n 1, 1) := by decide +kernel
theorem dL_law_2894 : decode cL_law 2894 = .ok (.aload_n 3, 1) := by decide +kernel
theorem dL_law_2895 : decode cL_law 2895 = .ok (.invokestatic 351, 3) := by decide +kernel
theorem dL_law_2898 : decode cL_law 2898 = .ok (.istore 6, 2) := by decide +kernel
theorem dL_law_2900 : decode cL_law 2900 = .ok (.aload_n 2, 1) := by decide +kernel
theorem dL_law_2901 : decode cL_law 2901 = .ok (.invokevirtual 353, 3) := by decide +kernel
theorem dL_law_2904 : decode cL_law 2904 = .ok (.istore 7, 2) := by decide +kernel
theorem dL_law_2906 : decode cL_law 2906 = .ok (.aload_n 2, 1) := by decide +kernel
theorem dL_law_2907 : decode cL_law 2907 = .ok (.invokevirtual 171, 3) := by decide +kernel
theorem dL_law_2910 : decode cL_law 2910 = .ok (.iload 6, 2) := by decide +kernel
theorem dL_law_2912 : decode cL_law 2912 = .ok (.if_icmp .eq 5, 3) := by decide +kernel
theorem dL_law_2915 : decode cL_law 2915 = .ok (.iconst 0, 1) := by decide +kernel
theorem dL_law_2916 : decode cL_law 2916 = .ok (.ireturn, 1) := by decide +kernel
theorem dL_law_2917 : decode cL_law 2917 = .ok (.iload 6, 2) := by decide +kernel
theorem dL_law_2919 : decode cL_law 2919 = .ok (.ifCond .ne 15, 3) := by decide +kernel
theorem dL_law_2922 : decode cL_law 2922 = .ok (.aload_n 3, 1) := by decide +kernel
theorem dL_law_2923 : decode cL_law 2923 = .ok (.iconst 0, 1) := by decide +kernel
theorem dL_law_2924 : decode cL_law 2924 = .ok (.laload, 1) := by decide +kernel
theorem dL_law_2925 : decode cL_law 2925 = .ok (.iload 7, 2) := by decide +kernel
theorem dL_law_2927 : decode cL_law 2927 = .ok (.i2l, 1) := by decide +kernel
theorem dL_law_2928 : decode cL_law 2928 = .ok (.lcmp, 1) := by decide +kernel
theorem dL_law_2929 : decode cL_law 2929 = .ok (.ifCond .eq 5, 3) := by decide +kernel
theorem dL_law_2932 : decode cL_law 2932 = .ok (.iconst 0, 1) := by decide +kernel
theorem dL_law_2933 : decode cL_law 2933 = .ok (.ireturn, 1) := by decide +kernel
theorem dL_law_2934 : decode cL_law 2934 = .ok (.goto 60, 3) := by decide +kernel
theorem dL_law_2937 : decode cL_law 2937 = .ok (.aload_n 1, 1) := by decide +kernel
theorem dL_law_2938 : decode cL_law 2938 = .ok (.invokevirtual 354, 3) := by decide +kernel
theorem dL_law_2941 : decode cL_law 2941 = .ok (.aload_n 2, 1) := by decide +kernel
theorem dL_law_2942 : decode cL_law 2942 = .ok (.invokevirtual 357, 3) := by decide +kernel
theorem dL_law_2945 : decode cL_law 2945 = .ok (.if_icmp .eq 49, 3) := by decide +kernel
theorem dL_law_2948 : decode cL_law 2948 = .ok (.iconst 0, 1) := by decide +kernel
theorem dL_law_2949 : decode cL_law 2949 = .ok (.ireturn, 1) := by decide +kernel
theorem dL_law_2950 : decode cL_law 2950 = .ok (.aload_n 1, 1) := by decide +kernel
theorem dL_law_2951 : decode cL_law 2951 = .ok (.aload_n 3, 1) := by decide +kernel
theorem dL_law_2952 : decode cL_law 2952 = .ok (.invokestatic 358, 3) := by decide +kernel
theorem dL_law_2955 : decode cL_law 2955 = .ok (.istore 6, 2) := by decide +kernel
theorem dL_law_2957 : decode cL_law 2957 = .ok (.aload_n 2, 1) := by decide +kernel
theorem dL_law_2958 : decode cL_law 2958 = .ok (.invokevirtual 360, 3) := by decide +kernel
theorem dL_law_2961 : decode cL_law 2961 = .ok (.istore 7, 2) := by decide +kernel
theorem dL_law_2963 : decode cL_law 2963 = .ok (.aload_n 2, 1) := by decide +kernel
theorem dL_law_2964 : decode cL_law 2964 = .ok (.invokevirtual 171, 3) := by decide +kernel
theorem dL_law_2967 : decode cL_law 2967 = .ok (.iload 6, 2) := by decide +kernel
theorem dL_law_2969 : decode cL_law 2969 = .ok (.if_icmp .eq 5, 3) := by decide +kernel
theorem dL_law_2972 : decode cL_law 2972 = .ok (.iconst 0, 1) := by decide +kernel
theorem dL_law_2973 : decode cL_law 2973 = .ok (.ireturn, 1) := by decide +kernel
