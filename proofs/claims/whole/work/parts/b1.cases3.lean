/-! THE LAW'S CASES 28 to 41 -/
set_option maxRecDepth 20000 in
set_option maxHeartbeats 4000000 in
theorem case_28 {p : Program} {l : Launch} {e : Env} {s : State} {m : MethodId} {args : Array Value} {below : List Frame} {meth : Method} {c : Code} {H : Heap} {locs : List Loc} {cells slots B k b L : Nat} {Q : State → Prop} {ls : Array Slot} {g : GP} {M : Mem} {xs : Nat → Int32} (hst0 : l.stackTraces = false) (X : CX g l p s m args meth c RL cL_law 9) (hX : va_X b L xs s (gH g)) (hbl : b < gN g) (hk : 5 * k + 5 ≤ L) (hL2 : L ≤ 2560) (hH : HR g M H) (hL : LK g s H locs) (hG : GI B M) (hB : B + 600 ≤ 2 ^ 20) (hf : cells + 1 ≤ 603072 ∧ slots + 6 ≤ 7198826) (hl : lv_has ls 9 (LVl g b k))
    (kk : ∀ H1 locs1 M1 ls1, HR g M1 H1 → LK g s H1 locs1 → GI (B + 600) M1 → lv_has ls1 9 (LVl g b k) → W p l e room_1 s m args below meth c H1 locs1 (cells + 1) (slots + 6) Q (F0 m 2994 ls1 [])) : W p l e room_1 s m args below meth c H locs cells slots Q (F0 m 1861 ls []) := by
  have hx := X.1
  have hb := X.2.1
  obtain ⟨v, M1, M2, e1, e2, hG2⟩ := call_nextTotal hG (by omega)
  refine w_askI (tg := 2994) X hH hL hl 2 rfl 3 rfl (co_X8_nextTotal g l hst0 1 M (by decide) (.inl v) M1 e1) ok_X8_nextTotal rfl U526 (co_X9_nextTotal g l hst0 204 M1 (by decide) v M2 e2) ok_X9_nextTotal rfl U1612 ⟨(Nat.le_of_ble_eq_true rfl), (Nat.le_of_ble_eq_true rfl)⟩ ⟨(Nat.le_of_ble_eq_true rfl), (Nat.le_of_ble_eq_true rfl)⟩ ⟨by show cells ≤ 603072; omega, by show slots ≤ 7198826; omega⟩ dL_law_1861 dL_law_1862 dL_law_1865 dL_law_1866 dL_law_1869 (by decide) (fun H locs hH hL => ?_)
  exact W.widen (k := cells + 1) (n := slots + 6) (by omega) (by omega) (kk H locs M2 ls hH hL (hG2.up (by omega)) hl)
set_option maxRecDepth 20000 in
set_option maxHeartbeats 4000000 in
theorem case_29 {p : Program} {l : Launch} {e : Env} {s : State} {m : MethodId} {args : Array Value} {below : List Frame} {meth : Method} {c : Code} {H : Heap} {locs : List Loc} {cells slots B k b L : Nat} {Q : State → Prop} {ls : Array Slot} {g : GP} {M : Mem} {xs : Nat → Int32} (hst0 : l.stackTraces = false) (X : CX g l p s m args meth c RL cL_law 9) (hX : va_X b L xs s (gH g)) (hbl : b < gN g) (hk : 5 * k + 5 ≤ L) (hL2 : L ≤ 2560) (hH : HR g M H) (hL : LK g s H locs) (hG : GI B M) (hB : B + 600 ≤ 2 ^ 20) (hf : cells + 1 ≤ 603072 ∧ slots + 6 ≤ 7198826) (hl : lv_has ls 9 (LVl g b k))
    (kk : ∀ H1 locs1 M1 ls1, HR g M1 H1 → LK g s H1 locs1 → GI (B + 600) M1 → lv_has ls1 9 (LVl g b k) → W p l e room_1 s m args below meth c H1 locs1 (cells + 1) (slots + 6) Q (F0 m 2994 ls1 [])) : W p l e room_1 s m args below meth c H locs cells slots Q (F0 m 1874 ls []) := by
  have hx := X.1
  have hb := X.2.1
  obtain ⟨v, M1, M2, e1, e2, hG2⟩ := call_period hG
  refine w_askI (tg := 2994) X hH hL hl 2 rfl 3 rfl (co_X8_period g l hst0 1 M (by decide) (.inl v) M1 e1) ok_X8_period rfl U550 (co_X9_period g l hst0 204 M1 (by decide) v M2 e2) ok_X9_period rfl U1616 ⟨(Nat.le_of_ble_eq_true rfl), (Nat.le_of_ble_eq_true rfl)⟩ ⟨(Nat.le_of_ble_eq_true rfl), (Nat.le_of_ble_eq_true rfl)⟩ ⟨by show cells ≤ 603072; omega, by show slots ≤ 7198826; omega⟩ dL_law_1874 dL_law_1875 dL_law_1878 dL_law_1879 dL_law_1882 (by decide) (fun H locs hH hL => ?_)
  exact W.widen (k := cells + 1) (n := slots + 6) (by omega) (by omega) (kk H locs M2 ls hH hL (hG2.up (by omega)) hl)
set_option maxRecDepth 20000 in
set_option maxHeartbeats 4000000 in
theorem case_30 {p : Program} {l : Launch} {e : Env} {s : State} {m : MethodId} {args : Array Value} {below : List Frame} {meth : Method} {c : Code} {H : Heap} {locs : List Loc} {cells slots B k b L : Nat} {Q : State → Prop} {ls : Array Slot} {g : GP} {M : Mem} {xs : Nat → Int32} (hst0 : l.stackTraces = false) (X : CX g l p s m args meth c RL cL_law 9) (hX : va_X b L xs s (gH g)) (hbl : b < gN g) (hk : 5 * k + 5 ≤ L) (hL2 : L ≤ 2560) (hH : HR g M H) (hL : LK g s H locs) (hG : GI B M) (hB : B + 600 ≤ 2 ^ 20) (hf : cells + 1 ≤ 603072 ∧ slots + 6 ≤ 7198826) (hl : lv_has ls 9 (LVl g b k))
    (kk : ∀ H1 locs1 M1 ls1, HR g M1 H1 → LK g s H1 locs1 → GI (B + 600) M1 → lv_has ls1 9 (LVl g b k) → W p l e room_1 s m args below meth c H1 locs1 (cells + 1) (slots + 6) Q (F0 m 2994 ls1 [])) : W p l e room_1 s m args below meth c H locs cells slots Q (F0 m 1887 ls []) := by
  have hx := X.1
  have hb := X.2.1
  obtain ⟨v, M1, M2, e1, e2, hG2⟩ := call_periodBySearch hG
  refine w_askI (tg := 2994) X hH hL hl 2 rfl 3 rfl (co_X8_periodBySearch g l hst0 1 M (by decide) (.inl v) M1 e1) ok_X8_periodBySearch rfl U564 (co_X9_periodBySearch g l hst0 204 M1 (by decide) v M2 e2) ok_X9_periodBySearch rfl U1624 ⟨(Nat.le_of_ble_eq_true rfl), (Nat.le_of_ble_eq_true rfl)⟩ ⟨(Nat.le_of_ble_eq_true rfl), (Nat.le_of_ble_eq_true rfl)⟩ ⟨by show cells ≤ 603072; omega, by show slots ≤ 7198826; omega⟩ dL_law_1887 dL_law_1888 dL_law_1891 dL_law_1892 dL_law_1895 (by decide) (fun H locs hH hL => ?_)
  exact W.widen (k := cells + 1) (n := slots + 6) (by omega) (by omega) (kk H locs M2 ls hH hL (hG2.up (by omega)) hl)
set_option maxRecDepth 20000 in
set_option maxHeartbeats 4000000 in
theorem case_31 {p : Program} {l : Launch} {e : Env} {s : State} {m : MethodId} {args : Array Value} {below : List Frame} {meth : Method} {c : Code} {H : Heap} {locs : List Loc} {cells slots B k b L : Nat} {Q : State → Prop} {ls : Array Slot} {g : GP} {M : Mem} {xs : Nat → Int32} (hst0 : l.stackTraces = false) (X : CX g l p s m args meth c RL cL_law 9) (hX : va_X b L xs s (gH g)) (hbl : b < gN g) (hk : 5 * k + 5 ≤ L) (hL2 : L ≤ 2560) (hH : HR g M H) (hL : LK g s H locs) (hG : GI B M) (hB : B + 600 ≤ 2 ^ 20) (hf : cells + 1 ≤ 603072 ∧ slots + 6 ≤ 7198826) (hl : lv_has ls 9 (LVl g b k))
    (kk : ∀ H1 locs1 M1 ls1, HR g M1 H1 → LK g s H1 locs1 → GI (B + 600) M1 → lv_has ls1 9 (LVl g b k) → W p l e room_1 s m args below meth c H1 locs1 (cells + 1) (slots + 6) Q (F0 m 2994 ls1 [])) : W p l e room_1 s m args below meth c H locs cells slots Q (F0 m 1900 ls []) := by
  have hx := X.1
  have hb := X.2.1
  obtain ⟨k9, M1, b9, M2, e1, e2, e3, e4, hG2⟩ := call_beatsUntilBreak hG (by omega) 
  refine lv_aload_n hx hb dL_law_1900 rfl (lv_at hl 2 rfl) ?_
  refine lv_aload_n hx hb dL_law_1901 rfl (lv_at hl 4 rfl) ?_
  refine w_call X hH hL hl.1 (co_L_beatsUntilBreak g l hst0 1  213 M (by decide) (by decide) k9 M1 e1) ok_L_beatsUntilBreak U909 rfl rfl ⟨(Nat.le_of_ble_eq_true rfl), (Nat.le_of_ble_eq_true rfl)⟩ hf (Nat.zero_le _) dL_law_1902 (fun H locs hH hL => ?_)
  refine lv_istore (lv' := (6, .int k9) :: LVl g b k) hx hb dL_law_1905 hl (by decide) rfl (fun ls hl => ?_)
  refine lv_aload_n hx hb dL_law_1907 rfl (lv_at hl 4 rfl) ?_
  refine my_done hL (my_runV X hH hl.1 (co_X9_beatsUntilBreak g l hst0 204  M1 (by decide) b9 M2 e2) ok_X9_beatsUntilBreak U1629 (show tyT 204 = 9 by decide) rfl (by decide) rfl rfl rfl ⟨(Nat.le_of_ble_eq_true rfl), (Nat.le_of_ble_eq_true rfl)⟩ hf (Nat.zero_le _) dL_law_1908) (fun H locs hH hL => ?_)
  refine lv_istore (lv' := (7, .int b9) :: (6, .int k9) :: LVl g b k) hx hb dL_law_1911 hl (by decide) rfl (fun ls hl => ?_)
  refine w_thr (v := k9) hst0 X hH hL hl ⟨(Nat.le_of_ble_eq_true rfl), (Nat.le_of_ble_eq_true rfl)⟩ hf 5 rfl 1 rfl e3 U1274 dL_law_1913 dL_law_1914 dL_law_1917 dL_law_1919 (fun H locs hH hL => ?_) (Nat.zero_le _)
  refine w_cmpI (tg := 2994) (o2 := 1053) X hH hl 6 rfl 1 rfl 0 rfl e4 dL_law_1924 dL_law_1926 dL_law_1929 dL_law_1930 dL_law_1931 dL_law_1932 dL_law_1934 dL_law_1935 dL_law_1936 dL_law_1941 (by decide) ?_
  exact kk H locs M2 ls hH hL (hG2.up (by omega)) (lv_sub hl [2, 3, 4, 5, 6, 7] rfl)
set_option maxRecDepth 20000 in
set_option maxHeartbeats 4000000 in
theorem case_32 {p : Program} {l : Launch} {e : Env} {s : State} {m : MethodId} {args : Array Value} {below : List Frame} {meth : Method} {c : Code} {H : Heap} {locs : List Loc} {cells slots B k b L : Nat} {Q : State → Prop} {ls : Array Slot} {g : GP} {M : Mem} {xs : Nat → Int32} (hst0 : l.stackTraces = false) (X : CX g l p s m args meth c RL cL_law 9) (hX : va_X b L xs s (gH g)) (hbl : b < gN g) (hk : 5 * k + 5 ≤ L) (hL2 : L ≤ 2560) (hH : HR g M H) (hL : LK g s H locs) (hG : GI B M) (hB : B + 600 ≤ 2 ^ 20) (hf : cells + 1 ≤ 603072 ∧ slots + 6 ≤ 7198826) (hl : lv_has ls 9 (LVl g b k))
    (kk : ∀ H1 locs1 M1 ls1, HR g M1 H1 → LK g s H1 locs1 → GI (B + 600) M1 → lv_has ls1 9 (LVl g b k) → W p l e room_1 s m args below meth c H1 locs1 (cells + 1) (slots + 6) Q (F0 m 2994 ls1 [])) : W p l e room_1 s m args below meth c H locs cells slots Q (F0 m 1944 ls []) := by
  have hx := X.1
  have hb := X.2.1
  obtain ⟨k9, M1, b9, M2, e1, e2, e3, e4, hG2⟩ := call_totalWithin hG (by omega) (xs (5 * k + 1))
  refine lv_aload_n hx hb dL_law_1944 rfl (lv_at hl 2 rfl) ?_
  refine w_ar (jn := 1) X hH hX hbl hk hL2 hl 1 rfl 0 rfl (by decide) rfl dL_law_1945 dL_law_1946 dL_law_1948 dL_law_1949 dL_law_1950 ?_
  refine lv_aload_n hx hb dL_law_1951 rfl (lv_at hl 4 rfl) ?_
  refine w_call X hH hL hl.1 (co_L_totalWithin g l hst0 1 (xs (5 * k + 1)) 213 M (by decide) (by decide) k9 M1 e1) ok_L_totalWithin U934 rfl rfl ⟨(Nat.le_of_ble_eq_true rfl), (Nat.le_of_ble_eq_true rfl)⟩ hf (Nat.zero_le _) dL_law_1952 (fun H locs hH hL => ?_)
  refine lv_istore (lv' := (6, .int k9) :: LVl g b k) hx hb dL_law_1955 hl (by decide) rfl (fun ls hl => ?_)
  refine lv_aload_n hx hb dL_law_1957 rfl (lv_at hl 4 rfl) ?_
  refine w_ar (jn := 1) X hH hX hbl hk hL2 hl 2 rfl 1 rfl (by decide) rfl dL_law_1958 dL_law_1959 dL_law_1961 dL_law_1962 dL_law_1963 ?_
  refine my_done hL (my_runV X hH hl.1 (co_X9_totalWithin g l hst0 204 (xs (5 * k + 1)) M1 (by decide) b9 M2 e2) ok_X9_totalWithin U1641 (show tyT 204 = 9 by decide) rfl (by decide) rfl rfl rfl ⟨(Nat.le_of_ble_eq_true rfl), (Nat.le_of_ble_eq_true rfl)⟩ hf (Nat.zero_le _) dL_law_1964) (fun H locs hH hL => ?_)
  refine lv_istore (lv' := (7, .int b9) :: (6, .int k9) :: LVl g b k) hx hb dL_law_1967 hl (by decide) rfl (fun ls hl => ?_)
  refine w_thr (v := k9) hst0 X hH hL hl ⟨(Nat.le_of_ble_eq_true rfl), (Nat.le_of_ble_eq_true rfl)⟩ hf 5 rfl 1 rfl e3 U1274 dL_law_1969 dL_law_1970 dL_law_1973 dL_law_1975 (fun H locs hH hL => ?_) (Nat.zero_le _)
  refine w_cmpI (tg := 2994) (o2 := 997) X hH hl 6 rfl 1 rfl 0 rfl e4 dL_law_1980 dL_law_1982 dL_law_1985 dL_law_1986 dL_law_1987 dL_law_1988 dL_law_1990 dL_law_1991 dL_law_1992 dL_law_1997 (by decide) ?_
  exact kk H locs M2 ls hH hL (hG2.up (by omega)) (lv_sub hl [2, 3, 4, 5, 6, 7] rfl)
set_option maxRecDepth 20000 in
set_option maxHeartbeats 4000000 in
theorem case_33 {p : Program} {l : Launch} {e : Env} {s : State} {m : MethodId} {args : Array Value} {below : List Frame} {meth : Method} {c : Code} {H : Heap} {locs : List Loc} {cells slots B k b L : Nat} {Q : State → Prop} {ls : Array Slot} {g : GP} {M : Mem} {xs : Nat → Int32} (hst0 : l.stackTraces = false) (X : CX g l p s m args meth c RL cL_law 9) (hX : va_X b L xs s (gH g)) (hbl : b < gN g) (hk : 5 * k + 5 ≤ L) (hL2 : L ≤ 2560) (hH : HR g M H) (hL : LK g s H locs) (hG : GI B M) (hB : B + 600 ≤ 2 ^ 20) (hf : cells + 1 ≤ 603072 ∧ slots + 6 ≤ 7198826) (hl : lv_has ls 9 (LVl g b k))
    (kk : ∀ H1 locs1 M1 ls1, HR g M1 H1 → LK g s H1 locs1 → GI (B + 600) M1 → lv_has ls1 9 (LVl g b k) → W p l e room_1 s m args below meth c H1 locs1 (cells + 1) (slots + 6) Q (F0 m 2994 ls1 [])) : W p l e room_1 s m args below meth c H locs cells slots Q (F0 m 2000 ls []) := by
  have hx := X.1
  have hb := X.2.1
  obtain ⟨v, M2, e1, e2, hG2⟩ := call_breakCount hG
  refine w_askI (tg := 2994) X hH hL hl 2 rfl 3 rfl (co_X8_breakCount g l hst0 1 M (by decide) v e1) ok_X8_breakCount rfl U572 (co_X9_breakCount g l hst0 204 M (by decide) v M2 e2) ok_X9_breakCount rfl U1645 ⟨(Nat.le_of_ble_eq_true rfl), (Nat.le_of_ble_eq_true rfl)⟩ ⟨(Nat.le_of_ble_eq_true rfl), (Nat.le_of_ble_eq_true rfl)⟩ ⟨by show cells ≤ 603072; omega, by show slots ≤ 7198826; omega⟩ dL_law_2000 dL_law_2001 dL_law_2004 dL_law_2005 dL_law_2008 (by decide) (fun H locs hH hL => ?_)
  exact W.widen (k := cells + 1) (n := slots + 6) (by omega) (by omega) (kk H locs M2 ls hH hL (hG2.up (by omega)) hl)
set_option maxRecDepth 20000 in
set_option maxHeartbeats 4000000 in
theorem case_34 {p : Program} {l : Launch} {e : Env} {s : State} {m : MethodId} {args : Array Value} {below : List Frame} {meth : Method} {c : Code} {H : Heap} {locs : List Loc} {cells slots B k b L : Nat} {Q : State → Prop} {ls : Array Slot} {g : GP} {M : Mem} {xs : Nat → Int32} (hst0 : l.stackTraces = false) (X : CX g l p s m args meth c RL cL_law 9) (hX : va_X b L xs s (gH g)) (hbl : b < gN g) (hk : 5 * k + 5 ≤ L) (hL2 : L ≤ 2560) (hH : HR g M H) (hL : LK g s H locs) (hG : GI B M) (hB : B + 600 ≤ 2 ^ 20) (hf : cells + 1 ≤ 603072 ∧ slots + 6 ≤ 7198826) (hl : lv_has ls 9 (LVl g b k))
    (kk : ∀ H1 locs1 M1 ls1, HR g M1 H1 → LK g s H1 locs1 → GI (B + 600) M1 → lv_has ls1 9 (LVl g b k) → W p l e room_1 s m args below meth c H1 locs1 (cells + 1) (slots + 6) Q (F0 m 2994 ls1 [])) : W p l e room_1 s m args below meth c H locs cells slots Q (F0 m 2013 ls []) := by
  have hx := X.1
  have hb := X.2.1
  obtain ⟨k9, M1, b9, M2, e1, e2, e3, e4, hG2⟩ := call_playedVolume hG (xs (5 * k + 1))
  refine lv_aload_n hx hb dL_law_2013 rfl (lv_at hl 2 rfl) ?_
  refine w_ar (jn := 1) X hH hX hbl hk hL2 hl 1 rfl 0 rfl (by decide) rfl dL_law_2014 dL_law_2015 dL_law_2017 dL_law_2018 dL_law_2019 ?_
  refine lv_aload_n hx hb dL_law_2020 rfl (lv_at hl 4 rfl) ?_
  refine w_call X hH hL hl.1 (co_L_playedVolume g l hst0 1 (xs (5 * k + 1)) 213 M (by decide) (by decide) k9 M1 e1) ok_L_playedVolume U942 rfl rfl ⟨(Nat.le_of_ble_eq_true rfl), (Nat.le_of_ble_eq_true rfl)⟩ hf (Nat.zero_le _) dL_law_2021 (fun H locs hH hL => ?_)
  refine lv_istore (lv' := (6, .int k9) :: LVl g b k) hx hb dL_law_2024 hl (by decide) rfl (fun ls hl => ?_)
  refine lv_aload_n hx hb dL_law_2026 rfl (lv_at hl 4 rfl) ?_
  refine w_ar (jn := 1) X hH hX hbl hk hL2 hl 2 rfl 1 rfl (by decide) rfl dL_law_2027 dL_law_2028 dL_law_2030 dL_law_2031 dL_law_2032 ?_
  refine my_done hL (my_runV X hH hl.1 (co_X9_playedVolume g l hst0 204 (xs (5 * k + 1)) M1 (by decide) b9 M2 e2) ok_X9_playedVolume U1649 (show tyT 204 = 9 by decide) rfl (by decide) rfl rfl rfl ⟨(Nat.le_of_ble_eq_true rfl), (Nat.le_of_ble_eq_true rfl)⟩ hf (Nat.zero_le _) dL_law_2033) (fun H locs hH hL => ?_)
  refine lv_istore (lv' := (7, .int b9) :: (6, .int k9) :: LVl g b k) hx hb dL_law_2036 hl (by decide) rfl (fun ls hl => ?_)
  refine w_thr (v := k9) hst0 X hH hL hl ⟨(Nat.le_of_ble_eq_true rfl), (Nat.le_of_ble_eq_true rfl)⟩ hf 5 rfl 1 rfl e3 U1274 dL_law_2038 dL_law_2039 dL_law_2042 dL_law_2044 (fun H locs hH hL => ?_) (Nat.zero_le _)
  refine w_cmpI (tg := 2994) (o2 := 928) X hH hl 6 rfl 1 rfl 0 rfl e4 dL_law_2049 dL_law_2051 dL_law_2054 dL_law_2055 dL_law_2056 dL_law_2057 dL_law_2059 dL_law_2060 dL_law_2061 dL_law_2066 (by decide) ?_
  exact kk H locs M2 ls hH hL (hG2.up (by omega)) (lv_sub hl [2, 3, 4, 5, 6, 7] rfl)
set_option maxRecDepth 20000 in
set_option maxHeartbeats 4000000 in
theorem case_35 {p : Program} {l : Launch} {e : Env} {s : State} {m : MethodId} {args : Array Value} {below : List Frame} {meth : Method} {c : Code} {H : Heap} {locs : List Loc} {cells slots B k b L : Nat} {Q : State → Prop} {ls : Array Slot} {g : GP} {M : Mem} {xs : Nat → Int32} (hst0 : l.stackTraces = false) (X : CX g l p s m args meth c RL cL_law 9) (hX : va_X b L xs s (gH g)) (hbl : b < gN g) (hk : 5 * k + 5 ≤ L) (hL2 : L ≤ 2560) (hH : HR g M H) (hL : LK g s H locs) (hG : GI B M) (hB : B + 600 ≤ 2 ^ 20) (hf : cells + 1 ≤ 603072 ∧ slots + 6 ≤ 7198826) (hl : lv_has ls 9 (LVl g b k))
    (kk : ∀ H1 locs1 M1 ls1, HR g M1 H1 → LK g s H1 locs1 → GI (B + 600) M1 → lv_has ls1 9 (LVl g b k) → W p l e room_1 s m args below meth c H1 locs1 (cells + 1) (slots + 6) Q (F0 m 2994 ls1 [])) : W p l e room_1 s m args below meth c H locs cells slots Q (F0 m 2069 ls []) := by
  have hx := X.1
  have hb := X.2.1
  obtain ⟨v, M2, e1, e2, hG2⟩ := call_totalVolume hG (by omega)
  refine w_askJ (tg := 2994) X hH hL hl 2 rfl 3 rfl (co_X8_totalVolume g l hst0 1 M (by decide) v e1) ok_X8_totalVolume rfl U576 (co_X9_totalVolume g l hst0 204 M (by decide) v M2 e2) ok_X9_totalVolume rfl U1653 ⟨(Nat.le_of_ble_eq_true rfl), (Nat.le_of_ble_eq_true rfl)⟩ ⟨(Nat.le_of_ble_eq_true rfl), (Nat.le_of_ble_eq_true rfl)⟩ ⟨by show cells ≤ 603072; omega, by show slots ≤ 7198826; omega⟩ dL_law_2069 dL_law_2070 dL_law_2073 dL_law_2074 dL_law_2077 dL_law_2078 (by decide) (fun H locs hH hL => ?_)
  exact W.widen (k := cells + 1) (n := slots + 6) (by omega) (by omega) (kk H locs M2 ls hH hL (hG2.up (by omega)) hl)
set_option maxRecDepth 20000 in
set_option maxHeartbeats 4000000 in
theorem case_36 {p : Program} {l : Launch} {e : Env} {s : State} {m : MethodId} {args : Array Value} {below : List Frame} {meth : Method} {c : Code} {H : Heap} {locs : List Loc} {cells slots B k b L : Nat} {Q : State → Prop} {ls : Array Slot} {g : GP} {M : Mem} {xs : Nat → Int32} (hst0 : l.stackTraces = false) (X : CX g l p s m args meth c RL cL_law 9) (hX : va_X b L xs s (gH g)) (hbl : b < gN g) (hk : 5 * k + 5 ≤ L) (hL2 : L ≤ 2560) (hH : HR g M H) (hL : LK g s H locs) (hG : GI B M) (hB : B + 600 ≤ 2 ^ 20) (hf : cells + 1 ≤ 603072 ∧ slots + 6 ≤ 7198826) (hl : lv_has ls 9 (LVl g b k))
    (kk : ∀ H1 locs1 M1 ls1, HR g M1 H1 → LK g s H1 locs1 → GI (B + 600) M1 → lv_has ls1 9 (LVl g b k) → W p l e room_1 s m args below meth c H1 locs1 (cells + 1) (slots + 6) Q (F0 m 2994 ls1 [])) : W p l e room_1 s m args below meth c H locs cells slots Q (F0 m 2083 ls []) := by
  have hx := X.1
  have hb := X.2.1
  obtain ⟨v, M2, e1, e2, hG2⟩ := call_totalVolumeBySounds hG (by omega)
  refine w_askJ (tg := 2994) X hH hL hl 2 rfl 3 rfl (co_X8_totalVolumeBySounds g l hst0 1 M (by decide) v e1) ok_X8_totalVolumeBySounds rfl U580 (co_X9_totalVolumeBySounds g l hst0 204 M (by decide) v M2 e2) ok_X9_totalVolumeBySounds rfl U1657 ⟨(Nat.le_of_ble_eq_true rfl), (Nat.le_of_ble_eq_true rfl)⟩ ⟨(Nat.le_of_ble_eq_true rfl), (Nat.le_of_ble_eq_true rfl)⟩ ⟨by show cells ≤ 603072; omega, by show slots ≤ 7198826; omega⟩ dL_law_2083 dL_law_2084 dL_law_2087 dL_law_2088 dL_law_2091 dL_law_2092 (by decide) (fun H locs hH hL => ?_)
  exact W.widen (k := cells + 1) (n := slots + 6) (by omega) (by omega) (kk H locs M2 ls hH hL (hG2.up (by omega)) hl)
set_option maxRecDepth 20000 in
set_option maxHeartbeats 4000000 in
theorem case_37 {p : Program} {l : Launch} {e : Env} {s : State} {m : MethodId} {args : Array Value} {below : List Frame} {meth : Method} {c : Code} {H : Heap} {locs : List Loc} {cells slots B k b L : Nat} {Q : State → Prop} {ls : Array Slot} {g : GP} {M : Mem} {xs : Nat → Int32} (hst0 : l.stackTraces = false) (X : CX g l p s m args meth c RL cL_law 9) (hX : va_X b L xs s (gH g)) (hbl : b < gN g) (hk : 5 * k + 5 ≤ L) (hL2 : L ≤ 2560) (hH : HR g M H) (hL : LK g s H locs) (hG : GI B M) (hB : B + 600 ≤ 2 ^ 20) (hf : cells + 1 ≤ 603072 ∧ slots + 6 ≤ 7198826) (hl : lv_has ls 9 (LVl g b k))
    (kk : ∀ H1 locs1 M1 ls1, HR g M1 H1 → LK g s H1 locs1 → GI (B + 600) M1 → lv_has ls1 9 (LVl g b k) → W p l e room_1 s m args below meth c H1 locs1 (cells + 1) (slots + 6) Q (F0 m 2994 ls1 [])) : W p l e room_1 s m args below meth c H locs cells slots Q (F0 m 2097 ls []) := by
  have hx := X.1
  have hb := X.2.1
  obtain ⟨k9, M1, b9, M2, e1, e2, e3, e4, hG2⟩ := call_soundCount hG (((xs (5 * k + 1)).toUInt32 % 65536).toInt32) (xs (5 * k + 2))
  refine lv_aload_n hx hb dL_law_2097 rfl (lv_at hl 2 rfl) ?_
  refine w_ar (jn := 1) X hH hX hbl hk hL2 hl 1 rfl 0 rfl (by decide) rfl dL_law_2098 dL_law_2099 dL_law_2101 dL_law_2102 dL_law_2103 ?_
  refine lv_i2c hx hb dL_law_2104 rfl ?_
  refine w_ar (jn := 2) X hH hX hbl hk hL2 hl 1 rfl 0 rfl (by decide) rfl dL_law_2105 dL_law_2106 dL_law_2108 dL_law_2109 dL_law_2110 ?_
  refine lv_aload_n hx hb dL_law_2111 rfl (lv_at hl 4 rfl) ?_
  refine w_call X hH hL hl.1 (co_L_soundCount g l hst0 1 (((xs (5 * k + 1)).toUInt32 % 65536).toInt32) (xs (5 * k + 2)) 213 M (by decide) (by decide) k9 M1 e1) ok_L_soundCount U949 rfl rfl ⟨(Nat.le_of_ble_eq_true rfl), (Nat.le_of_ble_eq_true rfl)⟩ hf (Nat.zero_le _) dL_law_2112 (fun H locs hH hL => ?_)
  refine lv_istore (lv' := (6, .int k9) :: LVl g b k) hx hb dL_law_2115 hl (by decide) rfl (fun ls hl => ?_)
  refine lv_aload_n hx hb dL_law_2117 rfl (lv_at hl 4 rfl) ?_
  refine w_ar (jn := 1) X hH hX hbl hk hL2 hl 2 rfl 1 rfl (by decide) rfl dL_law_2118 dL_law_2119 dL_law_2121 dL_law_2122 dL_law_2123 ?_
  refine lv_i2c hx hb dL_law_2124 rfl ?_
  refine w_ar (jn := 2) X hH hX hbl hk hL2 hl 2 rfl 1 rfl (by decide) rfl dL_law_2125 dL_law_2126 dL_law_2128 dL_law_2129 dL_law_2130 ?_
  refine my_done hL (my_runV X hH hl.1 (co_X9_soundCount g l hst0 204 (((xs (5 * k + 1)).toUInt32 % 65536).toInt32) (xs (5 * k + 2)) M1 (by decide) b9 M2 e2) ok_X9_soundCount U1669 (show tyT 204 = 9 by decide) rfl (by decide) rfl rfl rfl ⟨(Nat.le_of_ble_eq_true rfl), (Nat.le_of_ble_eq_true rfl)⟩ hf (Nat.zero_le _) dL_law_2131) (fun H locs hH hL => ?_)
  refine lv_istore (lv' := (7, .int b9) :: (6, .int k9) :: LVl g b k) hx hb dL_law_2134 hl (by decide) rfl (fun ls hl => ?_)
  refine w_thr (v := k9) hst0 X hH hL hl ⟨(Nat.le_of_ble_eq_true rfl), (Nat.le_of_ble_eq_true rfl)⟩ hf 5 rfl 1 rfl e3 U1274 dL_law_2136 dL_law_2137 dL_law_2140 dL_law_2142 (fun H locs hH hL => ?_) (Nat.zero_le _)
  refine w_cmpI (tg := 2994) (o2 := 830) X hH hl 6 rfl 1 rfl 0 rfl e4 dL_law_2147 dL_law_2149 dL_law_2152 dL_law_2153 dL_law_2154 dL_law_2155 dL_law_2157 dL_law_2158 dL_law_2159 dL_law_2164 (by decide) ?_
  exact kk H locs M2 ls hH hL (hG2.up (by omega)) (lv_sub hl [2, 3, 4, 5, 6, 7] rfl)
set_option maxRecDepth 20000 in
set_option maxHeartbeats 4000000 in
theorem case_38 {p : Program} {l : Launch} {e : Env} {s : State} {m : MethodId} {args : Array Value} {below : List Frame} {meth : Method} {c : Code} {H : Heap} {locs : List Loc} {cells slots B k b L : Nat} {Q : State → Prop} {ls : Array Slot} {g : GP} {M : Mem} {xs : Nat → Int32} (hst0 : l.stackTraces = false) (X : CX g l p s m args meth c RL cL_law 9) (hX : va_X b L xs s (gH g)) (hbl : b < gN g) (hk : 5 * k + 5 ≤ L) (hL2 : L ≤ 2560) (hH : HR g M H) (hL : LK g s H locs) (hG : GI B M) (hB : B + 600 ≤ 2 ^ 20) (hf : cells + 1 ≤ 603072 ∧ slots + 6 ≤ 7198826) (hl : lv_has ls 9 (LVl g b k))
    (kk : ∀ H1 locs1 M1 ls1, HR g M1 H1 → LK g s H1 locs1 → GI (B + 600) M1 → lv_has ls1 9 (LVl g b k) → W p l e room_1 s m args below meth c H1 locs1 (cells + 1) (slots + 6) Q (F0 m 2994 ls1 [])) : W p l e room_1 s m args below meth c H locs cells slots Q (F0 m 2167 ls []) := by
  have hx := X.1
  have hb := X.2.1
  obtain ⟨k9, M1, b9, M2, e1, e2, e3, e4, hG2⟩ := call_greatestTotal hG (by omega) 
  refine lv_aload_n hx hb dL_law_2167 rfl (lv_at hl 2 rfl) ?_
  refine lv_aload_n hx hb dL_law_2168 rfl (lv_at hl 4 rfl) ?_
  refine w_call X hH hL hl.1 (co_L_greatestTotal g l hst0 1  213 M (by decide) (by decide) k9 M1 e1) ok_L_greatestTotal U956 rfl rfl ⟨(Nat.le_of_ble_eq_true rfl), (Nat.le_of_ble_eq_true rfl)⟩ hf (Nat.zero_le _) dL_law_2169 (fun H locs hH hL => ?_)
  refine lv_istore (lv' := (6, .int k9) :: LVl g b k) hx hb dL_law_2172 hl (by decide) rfl (fun ls hl => ?_)
  refine lv_aload_n hx hb dL_law_2174 rfl (lv_at hl 4 rfl) ?_
  refine my_done hL (my_runV X hH hl.1 (co_X9_greatestTotal g l hst0 204  M1 (by decide) b9 M2 e2) ok_X9_greatestTotal U1673 (show tyT 204 = 9 by decide) rfl (by decide) rfl rfl rfl ⟨(Nat.le_of_ble_eq_true rfl), (Nat.le_of_ble_eq_true rfl)⟩ hf (Nat.zero_le _) dL_law_2175) (fun H locs hH hL => ?_)
  refine lv_istore (lv' := (7, .int b9) :: (6, .int k9) :: LVl g b k) hx hb dL_law_2178 hl (by decide) rfl (fun ls hl => ?_)
  refine w_thr (v := k9) hst0 X hH hL hl ⟨(Nat.le_of_ble_eq_true rfl), (Nat.le_of_ble_eq_true rfl)⟩ hf 5 rfl 1 rfl e3 U1274 dL_law_2180 dL_law_2181 dL_law_2184 dL_law_2186 (fun H locs hH hL => ?_) (Nat.zero_le _)
  refine w_cmpI (tg := 2994) (o2 := 786) X hH hl 6 rfl 1 rfl 0 rfl e4 dL_law_2191 dL_law_2193 dL_law_2196 dL_law_2197 dL_law_2198 dL_law_2199 dL_law_2201 dL_law_2202 dL_law_2203 dL_law_2208 (by decide) ?_
  exact kk H locs M2 ls hH hL (hG2.up (by omega)) (lv_sub hl [2, 3, 4, 5, 6, 7] rfl)
set_option maxRecDepth 20000 in
set_option maxHeartbeats 4000000 in
theorem case_39 {p : Program} {l : Launch} {e : Env} {s : State} {m : MethodId} {args : Array Value} {below : List Frame} {meth : Method} {c : Code} {H : Heap} {locs : List Loc} {cells slots B k b L : Nat} {Q : State → Prop} {ls : Array Slot} {g : GP} {M : Mem} {xs : Nat → Int32} (hst0 : l.stackTraces = false) (X : CX g l p s m args meth c RL cL_law 9) (hX : va_X b L xs s (gH g)) (hbl : b < gN g) (hk : 5 * k + 5 ≤ L) (hL2 : L ≤ 2560) (hH : HR g M H) (hL : LK g s H locs) (hG : GI B M) (hB : B + 600 ≤ 2 ^ 20) (hf : cells + 1 ≤ 603072 ∧ slots + 6 ≤ 7198826) (hl : lv_has ls 9 (LVl g b k))
    (kk : ∀ H1 locs1 M1 ls1, HR g M1 H1 → LK g s H1 locs1 → GI (B + 600) M1 → lv_has ls1 9 (LVl g b k) → W p l e room_1 s m args below meth c H1 locs1 (cells + 1) (slots + 6) Q (F0 m 2994 ls1 [])) : W p l e room_1 s m args below meth c H locs cells slots Q (F0 m 2211 ls []) := by
  have hx := X.1
  have hb := X.2.1
  obtain ⟨k9, M1, b9, M2, e1, e2, e3, e4, hG2⟩ := call_loggedTotal hG (by omega) (xs (5 * k + 1))
  refine lv_aload_n hx hb dL_law_2211 rfl (lv_at hl 2 rfl) ?_
  refine w_ar (jn := 1) X hH hX hbl hk hL2 hl 1 rfl 0 rfl (by decide) rfl dL_law_2212 dL_law_2213 dL_law_2215 dL_law_2216 dL_law_2217 ?_
  refine lv_aload_n hx hb dL_law_2218 rfl (lv_at hl 4 rfl) ?_
  refine w_call X hH hL hl.1 (co_L_loggedTotal g l hst0 1 (xs (5 * k + 1)) 213 M (by decide) (by decide) k9 M1 e1) ok_L_loggedTotal U964 rfl rfl ⟨(Nat.le_of_ble_eq_true rfl), (Nat.le_of_ble_eq_true rfl)⟩ hf (Nat.zero_le _) dL_law_2219 (fun H locs hH hL => ?_)
  refine lv_istore (lv' := (6, .int k9) :: LVl g b k) hx hb dL_law_2222 hl (by decide) rfl (fun ls hl => ?_)
  refine lv_aload_n hx hb dL_law_2224 rfl (lv_at hl 4 rfl) ?_
  refine w_ar (jn := 1) X hH hX hbl hk hL2 hl 2 rfl 1 rfl (by decide) rfl dL_law_2225 dL_law_2226 dL_law_2228 dL_law_2229 dL_law_2230 ?_
  refine my_done hL (my_runV X hH hl.1 (co_X9_loggedTotal g l hst0 204 (xs (5 * k + 1)) M1 (by decide) b9 M2 e2) ok_X9_loggedTotal U1677 (show tyT 204 = 9 by decide) rfl (by decide) rfl rfl rfl ⟨(Nat.le_of_ble_eq_true rfl), (Nat.le_of_ble_eq_true rfl)⟩ hf (Nat.zero_le _) dL_law_2231) (fun H locs hH hL => ?_)
  refine lv_istore (lv' := (7, .int b9) :: (6, .int k9) :: LVl g b k) hx hb dL_law_2234 hl (by decide) rfl (fun ls hl => ?_)
  refine w_thr (v := k9) hst0 X hH hL hl ⟨(Nat.le_of_ble_eq_true rfl), (Nat.le_of_ble_eq_true rfl)⟩ hf 5 rfl 1 rfl e3 U1274 dL_law_2236 dL_law_2237 dL_law_2240 dL_law_2242 (fun H locs hH hL => ?_) (Nat.zero_le _)
  refine w_cmpI (tg := 2994) (o2 := 730) X hH hl 6 rfl 1 rfl 0 rfl e4 dL_law_2247 dL_law_2249 dL_law_2252 dL_law_2253 dL_law_2254 dL_law_2255 dL_law_2257 dL_law_2258 dL_law_2259 dL_law_2264 (by decide) ?_
  exact kk H locs M2 ls hH hL (hG2.up (by omega)) (lv_sub hl [2, 3, 4, 5, 6, 7] rfl)
set_option maxRecDepth 20000 in
set_option maxHeartbeats 4000000 in
theorem case_40 {p : Program} {l : Launch} {e : Env} {s : State} {m : MethodId} {args : Array Value} {below : List Frame} {meth : Method} {c : Code} {H : Heap} {locs : List Loc} {cells slots B k b L : Nat} {Q : State → Prop} {ls : Array Slot} {g : GP} {M : Mem} {xs : Nat → Int32} (hst0 : l.stackTraces = false) (X : CX g l p s m args meth c RL cL_law 9) (hX : va_X b L xs s (gH g)) (hbl : b < gN g) (hk : 5 * k + 5 ≤ L) (hL2 : L ≤ 2560) (hH : HR g M H) (hL : LK g s H locs) (hG : GI B M) (hB : B + 600 ≤ 2 ^ 20) (hf : cells + 1 ≤ 603072 ∧ slots + 6 ≤ 7198826) (hl : lv_has ls 9 (LVl g b k))
    (kk : ∀ H1 locs1 M1 ls1, HR g M1 H1 → LK g s H1 locs1 → GI (B + 600) M1 → lv_has ls1 9 (LVl g b k) → W p l e room_1 s m args below meth c H1 locs1 (cells + 1) (slots + 6) Q (F0 m 2994 ls1 [])) : W p l e room_1 s m args below meth c H locs cells slots Q (F0 m 2267 ls []) := by
  have hx := X.1
  have hb := X.2.1
  obtain ⟨k9, M1, b9, M2, e1, e2, e3, e4, hG2⟩ := call_sectionByVolume hG (by omega) (xs (5 * k + 1))
  refine lv_aload_n hx hb dL_law_2267 rfl (lv_at hl 2 rfl) ?_
  refine w_ar (jn := 1) X hH hX hbl hk hL2 hl 1 rfl 0 rfl (by decide) rfl dL_law_2268 dL_law_2269 dL_law_2271 dL_law_2272 dL_law_2273 ?_
  refine lv_aload_n hx hb dL_law_2274 rfl (lv_at hl 4 rfl) ?_
  refine w_call X hH hL hl.1 (co_L_sectionByVolume g l hst0 1 (xs (5 * k + 1)) 213 M (by decide) (by decide) k9 M1 e1) ok_L_sectionByVolume U976 rfl rfl ⟨(Nat.le_of_ble_eq_true rfl), (Nat.le_of_ble_eq_true rfl)⟩ hf (Nat.zero_le _) dL_law_2275 (fun H locs hH hL => ?_)
  refine lv_istore (lv' := (6, .int k9) :: LVl g b k) hx hb dL_law_2278 hl (by decide) rfl (fun ls hl => ?_)
  refine lv_aload_n hx hb dL_law_2280 rfl (lv_at hl 4 rfl) ?_
  refine w_ar (jn := 1) X hH hX hbl hk hL2 hl 2 rfl 1 rfl (by decide) rfl dL_law_2281 dL_law_2282 dL_law_2284 dL_law_2285 dL_law_2286 ?_
  refine my_done hL (my_runV X hH hl.1 (co_X9_sectionByVolume g l hst0 204 (xs (5 * k + 1)) M1 (by decide) b9 M2 e2) ok_X9_sectionByVolume U1681 (show tyT 204 = 9 by decide) rfl (by decide) rfl rfl rfl ⟨(Nat.le_of_ble_eq_true rfl), (Nat.le_of_ble_eq_true rfl)⟩ hf (Nat.zero_le _) dL_law_2287) (fun H locs hH hL => ?_)
  refine lv_istore (lv' := (7, .int b9) :: (6, .int k9) :: LVl g b k) hx hb dL_law_2290 hl (by decide) rfl (fun ls hl => ?_)
  refine w_thr (v := k9) hst0 X hH hL hl ⟨(Nat.le_of_ble_eq_true rfl), (Nat.le_of_ble_eq_true rfl)⟩ hf 5 rfl 1 rfl e3 U1274 dL_law_2292 dL_law_2293 dL_law_2296 dL_law_2298 (fun H locs hH hL => ?_) (Nat.zero_le _)
  refine w_cmpI (tg := 2994) (o2 := 674) X hH hl 6 rfl 1 rfl 0 rfl e4 dL_law_2303 dL_law_2305 dL_law_2308 dL_law_2309 dL_law_2310 dL_law_2311 dL_law_2313 dL_law_2314 dL_law_2315 dL_law_2320 (by decide) ?_
  exact kk H locs M2 ls hH hL (hG2.up (by omega)) (lv_sub hl [2, 3, 4, 5, 6, 7] rfl)
set_option maxRecDepth 20000 in
set_option maxHeartbeats 4000000 in
theorem case_41 {p : Program} {l : Launch} {e : Env} {s : State} {m : MethodId} {args : Array Value} {below : List Frame} {meth : Method} {c : Code} {H : Heap} {locs : List Loc} {cells slots B k b L : Nat} {Q : State → Prop} {ls : Array Slot} {g : GP} {M : Mem} {xs : Nat → Int32} (hst0 : l.stackTraces = false) (X : CX g l p s m args meth c RL cL_law 9) (hX : va_X b L xs s (gH g)) (hbl : b < gN g) (hk : 5 * k + 5 ≤ L) (hL2 : L ≤ 2560) (hH : HR g M H) (hL : LK g s H locs) (hG : GI B M) (hB : B + 600 ≤ 2 ^ 20) (hf : cells + 1 ≤ 603072 ∧ slots + 6 ≤ 7198826) (hl : lv_has ls 9 (LVl g b k))
    (kk : ∀ H1 locs1 M1 ls1, HR g M1 H1 → LK g s H1 locs1 → GI (B + 600) M1 → lv_has ls1 9 (LVl g b k) → W p l e room_1 s m args below meth c H1 locs1 (cells + 1) (slots + 6) Q (F0 m 2994 ls1 [])) : W p l e room_1 s m args below meth c H locs cells slots Q (F0 m 2323 ls []) := by
  have hx := X.1
  have hb := X.2.1
  obtain ⟨k9, M1, b9, M2, e1, e2, e3, e4, hG2⟩ := call_noteBySounds hG (by omega) (xs (5 * k + 1))
  refine lv_aload_n hx hb dL_law_2323 rfl (lv_at hl 2 rfl) ?_
  refine w_ar (jn := 1) X hH hX hbl hk hL2 hl 1 rfl 0 rfl (by decide) rfl dL_law_2324 dL_law_2325 dL_law_2327 dL_law_2328 dL_law_2329 ?_
  refine lv_aload_n hx hb dL_law_2330 rfl (lv_at hl 4 rfl) ?_
  refine w_call X hH hL hl.1 (co_L_noteBySounds g l hst0 1 (xs (5 * k + 1)) 213 M (by decide) (by decide) k9 M1 e1) ok_L_noteBySounds U994 rfl rfl ⟨(Nat.le_of_ble_eq_true rfl), (Nat.le_of_ble_eq_true rfl)⟩ hf (Nat.zero_le _) dL_law_2331 (fun H locs hH hL => ?_)
  refine lv_istore (lv' := (6, .int k9) :: LVl g b k) hx hb dL_law_2334 hl (by decide) rfl (fun ls hl => ?_)
  refine lv_aload_n hx hb dL_law_2336 rfl (lv_at hl 4 rfl) ?_
  refine w_ar (jn := 1) X hH hX hbl hk hL2 hl 2 rfl 1 rfl (by decide) rfl dL_law_2337 dL_law_2338 dL_law_2340 dL_law_2341 dL_law_2342 ?_
  refine my_done hL (my_runV X hH hl.1 (co_X9_noteBySounds g l hst0 204 (xs (5 * k + 1)) M1 (by decide) b9 M2 e2) ok_X9_noteBySounds U1689 (show tyT 204 = 9 by decide) rfl (by decide) rfl rfl rfl ⟨(Nat.le_of_ble_eq_true rfl), (Nat.le_of_ble_eq_true rfl)⟩ hf (Nat.zero_le _) dL_law_2343) (fun H locs hH hL => ?_)
  refine lv_istore (lv' := (7, .int b9) :: (6, .int k9) :: LVl g b k) hx hb dL_law_2346 hl (by decide) rfl (fun ls hl => ?_)
  refine w_thr (v := k9) hst0 X hH hL hl ⟨(Nat.le_of_ble_eq_true rfl), (Nat.le_of_ble_eq_true rfl)⟩ hf 5 rfl 1 rfl e3 U1274 dL_law_2348 dL_law_2349 dL_law_2352 dL_law_2354 (fun H locs hH hL => ?_) (Nat.zero_le _)
  refine w_cmpI (tg := 2994) (o2 := 618) X hH hl 6 rfl 1 rfl 0 rfl e4 dL_law_2359 dL_law_2361 dL_law_2364 dL_law_2365 dL_law_2366 dL_law_2367 dL_law_2369 dL_law_2370 dL_law_2371 dL_law_2376 (by decide) ?_
  exact kk H locs M2 ls hH hL (hG2.up (by omega)) (lv_sub hl [2, 3, 4, 5, 6, 7] rfl)
