set_option maxHeartbeats 4000000 in
set_option maxRecDepth 100000 in
theorem law_23 {p : Program} {l : Launch} {e : Env} {s : State} {m : MethodId} {args : Array Value} {below : List Frame} {meth : Method} {c : Code} {Z : jE} {A : Nat → Prop} {cells slots : Nat} {Q : State → Prop} {n : Nat} {C : jC} {b L : Nat} {xs : Nat → Int32} {i K : Int} (LW : jwLaw p l s m args c Z A b L xs i) (hw : jWF n C) (h : rAll C K) (hK : K < 800000) (hc : cells + 310 ≤ 319022 ∧ slots + 9400 ≤ 8139040) (kk : jwCo p l e s m args below meth c A cells slots Q K i b) : jG p l e room_1 s m args below meth c 7 Z A (jws Z n C) cells slots Q 1724 (jwLv Z i b) [] := by
  have X := LW.1
  have hn := hw.2.2.1
  have hc1 := hc.1
  have hc2 := hc.2
  refine jg_aload_n (pc := 1724) X d_W_1724 2 rfl ?_
  refine jg_arg (pc := 1725) (k := 1) LW (by decide) (by decide) l_W_1725 1 0 rfl rfl ?_
  refine jg_arg (pc := 1731) (k := 2) LW (by decide) (by decide) l_W_1731 1 0 rfl rfl ?_
  refine jg_aload_n (pc := 1737) X d_W_1737 4 rfl ?_
  refine jg_callH (np := 4) (rest := []) (pc := 1738) X LW.2.1 (h_fits (jwSv_r xs i 1) (jwSv_r xs i 2) hw h) ky_1207 ky_1206 ky_0 ky_1205 ⟨by decide, by decide, by decide +kernel⟩ rfl rfl (Nat.le_of_ble_eq_true rfl) d_W_1738 ⟨Nat.le_of_ble_eq_true rfl, Nat.le_of_ble_eq_true rfl⟩ ⟨by show cells + 2 ≤ 319022; omega, by show slots + 12 ≤ 8139040; omega⟩ (fun r v C1 rr hw1 hp => ?_)
  refine jg_istore (pc := 1741) X ((5, jI r) :: jwLv Z i b) d_W_1741 (by decide) rfl ?_
  refine jg_aload_n (pc := 1743) X d_W_1743 4 rfl ?_
  refine jg_arg (pc := 1744) (k := 1) LW (by decide) (by decide) l_W_1744 2 1 rfl rfl ?_
  refine jg_arg (pc := 1750) (k := 2) LW (by decide) (by decide) l_W_1750 2 1 rfl rfl ?_
  refine jg_eqst (st2 := ([jI (jwSv xs i 1), jI (jwSv xs i 2)] : List Value).reverse ++ [jr Z 345]) rfl ?_
  exact law_tailB (wpm := (wp_12_fits (jwSv xs i 1) (jwSv xs i 2))) (pc := 1756) X (fun post hq => m_12_fits (jwSv_r xs i 1) (jwSv_r xs i 2) hw1 hq) jM_12_fits rfl ky_1936 ky_1463 rfl t_W_1756 u_W_1756 (by decide) hp rr hw1 ⟨Nat.le_of_ble_eq_true rfl, Nat.le_of_ble_eq_true rfl, rfl, rfl⟩ hc ⟨by show cells + 2 ≤ cells + 310; omega, by show slots + 12 ≤ slots + 9400; omega⟩ (by omega) kk
set_option maxHeartbeats 4000000 in
set_option maxRecDepth 100000 in
theorem law_24 {p : Program} {l : Launch} {e : Env} {s : State} {m : MethodId} {args : Array Value} {below : List Frame} {meth : Method} {c : Code} {Z : jE} {A : Nat → Prop} {cells slots : Nat} {Q : State → Prop} {n : Nat} {C : jC} {b L : Nat} {xs : Nat → Int32} {i K : Int} (LW : jwLaw p l s m args c Z A b L xs i) (hw : jWF n C) (h : rAll C K) (hK : K < 800000) (hc : cells + 310 ≤ 319022 ∧ slots + 9400 ≤ 8139040) (kk : jwCo p l e s m args below meth c A cells slots Q K i b) : jG p l e room_1 s m args below meth c 7 Z A (jws Z n C) cells slots Q 1799 (jwLv Z i b) [] := by
  have X := LW.1
  have hn := hw.2.2.1
  have hc1 := hc.1
  have hc2 := hc.2
  refine jg_aload_n (pc := 1799) X d_W_1799 2 rfl ?_
  refine jg_arg (pc := 1800) (k := 1) LW (by decide) (by decide) l_W_1800 1 0 rfl rfl ?_
  refine jg_arg (pc := 1806) (k := 2) LW (by decide) (by decide) l_W_1806 1 0 rfl rfl ?_
  refine jg_aload_n (pc := 1812) X d_W_1812 4 rfl ?_
  refine jg_callH (np := 4) (rest := []) (pc := 1813) X LW.2.1 (h_why (jwSv_r xs i 1) (jwSv_r xs i 2) hw h) ky_1219 ky_1218 ky_0 ky_1217 ⟨by decide, by decide, by decide +kernel⟩ rfl rfl (Nat.le_of_ble_eq_true rfl) d_W_1813 ⟨Nat.le_of_ble_eq_true rfl, Nat.le_of_ble_eq_true rfl⟩ ⟨by show cells + 2 ≤ 319022; omega, by show slots + 12 ≤ 8139040; omega⟩ (fun r v C1 rr hw1 hp => ?_)
  refine jg_istore (pc := 1816) X ((5, jI r) :: jwLv Z i b) d_W_1816 (by decide) rfl ?_
  refine jg_aload_n (pc := 1818) X d_W_1818 4 rfl ?_
  refine jg_arg (pc := 1819) (k := 1) LW (by decide) (by decide) l_W_1819 2 1 rfl rfl ?_
  refine jg_arg (pc := 1825) (k := 2) LW (by decide) (by decide) l_W_1825 2 1 rfl rfl ?_
  refine jg_eqst (st2 := ([jI (jwSv xs i 1), jI (jwSv xs i 2)] : List Value).reverse ++ [jr Z 345]) rfl ?_
  exact law_tailI (wpm := (wp_12_why (jwSv xs i 1) (jwSv xs i 2))) (pc := 1831) X (fun post hq => m_12_why (jwSv_r xs i 1) (jwSv_r xs i 2) hw1 hq) jM_12_why rfl ky_1940 ky_1463 rfl t_W_1831 u_W_1831 (by decide) hp rr hw1 ⟨Nat.le_of_ble_eq_true rfl, Nat.le_of_ble_eq_true rfl, rfl, rfl⟩ hc ⟨by show cells + 2 ≤ cells + 310; omega, by show slots + 12 ≤ slots + 9400; omega⟩ (by omega) kk
set_option maxHeartbeats 4000000 in
set_option maxRecDepth 100000 in
theorem law_25 {p : Program} {l : Launch} {e : Env} {s : State} {m : MethodId} {args : Array Value} {below : List Frame} {meth : Method} {c : Code} {Z : jE} {A : Nat → Prop} {cells slots : Nat} {Q : State → Prop} {n : Nat} {C : jC} {b L : Nat} {xs : Nat → Int32} {i K : Int} (LW : jwLaw p l s m args c Z A b L xs i) (hw : jWF n C) (h : rAll C K) (hK : K < 800000) (hc : cells + 310 ≤ 319022 ∧ slots + 9400 ≤ 8139040) (kk : jwCo p l e s m args below meth c A cells slots Q K i b) : jG p l e room_1 s m args below meth c 7 Z A (jws Z n C) cells slots Q 1867 (jwLv Z i b) [] := by
  have X := LW.1
  have hn := hw.2.2.1
  have hc1 := hc.1
  have hc2 := hc.2
  refine jg_aload_n (pc := 1867) X d_W_1867 2 rfl ?_
  refine jg_arg (pc := 1868) (k := 1) LW (by decide) (by decide) l_W_1868 1 0 rfl rfl ?_
  refine jg_aload_n (pc := 1874) X d_W_1874 4 rfl ?_
  refine jg_callH (np := 3) (rest := []) (pc := 1875) X LW.2.1 (h_stale (jwSv_r xs i 1) hw h) ky_1227 ky_1226 ky_0 ky_1225 ⟨by decide, by decide, by decide +kernel⟩ rfl rfl (Nat.le_of_ble_eq_true rfl) d_W_1875 ⟨Nat.le_of_ble_eq_true rfl, Nat.le_of_ble_eq_true rfl⟩ ⟨by show cells + 1 ≤ 319022; omega, by show slots + 6 ≤ 8139040; omega⟩ (fun r v C1 rr hw1 hp => ?_)
  refine jg_istore (pc := 1878) X ((5, jI r) :: jwLv Z i b) d_W_1878 (by decide) rfl ?_
  refine jg_aload_n (pc := 1880) X d_W_1880 4 rfl ?_
  refine jg_arg (pc := 1881) (k := 1) LW (by decide) (by decide) l_W_1881 2 1 rfl rfl ?_
  refine jg_eqst (st2 := ([jI (jwSv xs i 1)] : List Value).reverse ++ [jr Z 345]) rfl ?_
  exact law_tailI (wpm := (wp_12_stale (jwSv xs i 1))) (pc := 1887) X (fun post hq => m_12_stale (jwSv_r xs i 1) hw1 hq) jM_12_stale rfl ky_1944 ky_1463 rfl t_W_1887 u_W_1887 (by decide) hp rr hw1 ⟨Nat.le_of_ble_eq_true rfl, Nat.le_of_ble_eq_true rfl, rfl, rfl⟩ hc ⟨by show cells + 1 ≤ cells + 310; omega, by show slots + 6 ≤ slots + 9400; omega⟩ (by omega) kk
set_option maxHeartbeats 4000000 in
set_option maxRecDepth 100000 in
theorem law_26 {p : Program} {l : Launch} {e : Env} {s : State} {m : MethodId} {args : Array Value} {below : List Frame} {meth : Method} {c : Code} {Z : jE} {A : Nat → Prop} {cells slots : Nat} {Q : State → Prop} {n : Nat} {C : jC} {b L : Nat} {xs : Nat → Int32} {i K : Int} (LW : jwLaw p l s m args c Z A b L xs i) (hw : jWF n C) (h : rAll C K) (hK : K < 800000) (hc : cells + 310 ≤ 319022 ∧ slots + 9400 ≤ 8139040) (kk : jwCo p l e s m args below meth c A cells slots Q K i b) : jG p l e room_1 s m args below meth c 7 Z A (jws Z n C) cells slots Q 1923 (jwLv Z i b) [] := by
  have X := LW.1
  have hn := hw.2.2.1
  have hc1 := hc.1
  have hc2 := hc.2
  refine jg_aload_n (pc := 1923) X d_W_1923 2 rfl ?_
  refine jg_arg (pc := 1924) (k := 1) LW (by decide) (by decide) l_W_1924 1 0 rfl rfl ?_
  refine jg_aload_n (pc := 1930) X d_W_1930 4 rfl ?_
  refine jg_callH (np := 3) (rest := []) (pc := 1931) X LW.2.1 (h_pending (jwSv_r xs i 1) hw h) ky_1239 ky_1238 ky_0 ky_1237 ⟨by decide, by decide, by decide +kernel⟩ rfl rfl (Nat.le_of_ble_eq_true rfl) d_W_1931 ⟨Nat.le_of_ble_eq_true rfl, Nat.le_of_ble_eq_true rfl⟩ ⟨by show cells + 1 ≤ 319022; omega, by show slots + 6 ≤ 8139040; omega⟩ (fun r v C1 rr hw1 hp => ?_)
  refine jg_istore (pc := 1934) X ((5, jI r) :: jwLv Z i b) d_W_1934 (by decide) rfl ?_
  refine jg_aload_n (pc := 1936) X d_W_1936 4 rfl ?_
  refine jg_arg (pc := 1937) (k := 1) LW (by decide) (by decide) l_W_1937 2 1 rfl rfl ?_
  refine jg_eqst (st2 := ([jI (jwSv xs i 1)] : List Value).reverse ++ [jr Z 345]) rfl ?_
  exact law_tailI (wpm := (wp_12_pending (jwSv xs i 1))) (pc := 1943) X (fun post hq => m_12_pending (jwSv_r xs i 1) hw1 hq) jM_12_pending rfl ky_1948 ky_1463 rfl t_W_1943 u_W_1943 (by decide) hp rr hw1 ⟨Nat.le_of_ble_eq_true rfl, Nat.le_of_ble_eq_true rfl, rfl, rfl⟩ hc ⟨by show cells + 1 ≤ cells + 310; omega, by show slots + 6 ≤ slots + 9400; omega⟩ (by omega) kk
set_option maxHeartbeats 4000000 in
set_option maxRecDepth 100000 in
theorem law_27 {p : Program} {l : Launch} {e : Env} {s : State} {m : MethodId} {args : Array Value} {below : List Frame} {meth : Method} {c : Code} {Z : jE} {A : Nat → Prop} {cells slots : Nat} {Q : State → Prop} {n : Nat} {C : jC} {b L : Nat} {xs : Nat → Int32} {i K : Int} (LW : jwLaw p l s m args c Z A b L xs i) (hw : jWF n C) (h : rAll C K) (hK : K < 800000) (hc : cells + 310 ≤ 319022 ∧ slots + 9400 ≤ 8139040) (kk : jwCo p l e s m args below meth c A cells slots Q K i b) : jG p l e room_1 s m args below meth c 7 Z A (jws Z n C) cells slots Q 1979 (jwLv Z i b) [] := by
  have X := LW.1
  have hn := hw.2.2.1
  have hc1 := hc.1
  have hc2 := hc.2
  refine jg_aload_n (pc := 1979) X d_W_1979 2 rfl ?_
  refine jg_arg (pc := 1980) (k := 1) LW (by decide) (by decide) l_W_1980 1 0 rfl rfl ?_
  refine jg_arg (pc := 1986) (k := 2) LW (by decide) (by decide) l_W_1986 1 0 rfl rfl ?_
  refine jg_aload_n (pc := 1992) X d_W_1992 4 rfl ?_
  refine jg_callH (np := 4) (rest := []) (pc := 1993) X LW.2.1 (h_rank (jwSv_r xs i 1) (jwSv_r xs i 2) hw h) ky_1250 ky_1249 ky_0 ky_1248 ⟨by decide, by decide, by decide +kernel⟩ rfl rfl (Nat.le_of_ble_eq_true rfl) d_W_1993 ⟨Nat.le_of_ble_eq_true rfl, Nat.le_of_ble_eq_true rfl⟩ ⟨by show cells + 2 ≤ 319022; omega, by show slots + 12 ≤ 8139040; omega⟩ (fun r v C1 rr hw1 hp => ?_)
  refine jg_istore (pc := 1996) X ((5, jI r) :: jwLv Z i b) d_W_1996 (by decide) rfl ?_
  refine jg_aload_n (pc := 1998) X d_W_1998 4 rfl ?_
  refine jg_arg (pc := 1999) (k := 1) LW (by decide) (by decide) l_W_1999 2 1 rfl rfl ?_
  refine jg_arg (pc := 2005) (k := 2) LW (by decide) (by decide) l_W_2005 2 1 rfl rfl ?_
  refine jg_eqst (st2 := ([jI (jwSv xs i 1), jI (jwSv xs i 2)] : List Value).reverse ++ [jr Z 345]) rfl ?_
  exact law_tailI (wpm := (wp_12_rank (jwSv xs i 1) (jwSv xs i 2))) (pc := 2011) X (fun post hq => m_12_rank (jwSv_r xs i 1) (jwSv_r xs i 2) hw1 hq) jM_12_rank rfl ky_1952 ky_1463 rfl t_W_2011 u_W_2011 (by decide) hp rr hw1 ⟨Nat.le_of_ble_eq_true rfl, Nat.le_of_ble_eq_true rfl, rfl, rfl⟩ hc ⟨by show cells + 2 ≤ cells + 310; omega, by show slots + 12 ≤ slots + 9400; omega⟩ (by omega) kk
set_option maxHeartbeats 4000000 in
set_option maxRecDepth 100000 in
theorem law_28 {p : Program} {l : Launch} {e : Env} {s : State} {m : MethodId} {args : Array Value} {below : List Frame} {meth : Method} {c : Code} {Z : jE} {A : Nat → Prop} {cells slots : Nat} {Q : State → Prop} {n : Nat} {C : jC} {b L : Nat} {xs : Nat → Int32} {i K : Int} (LW : jwLaw p l s m args c Z A b L xs i) (hw : jWF n C) (h : rAll C K) (hK : K < 800000) (hc : cells + 310 ≤ 319022 ∧ slots + 9400 ≤ 8139040) (kk : jwCo p l e s m args below meth c A cells slots Q K i b) : jG p l e room_1 s m args below meth c 7 Z A (jws Z n C) cells slots Q 2047 (jwLv Z i b) [] := by
  have X := LW.1
  have hn := hw.2.2.1
  have hc1 := hc.1
  have hc2 := hc.2
  refine jg_aload_n (pc := 2047) X d_W_2047 2 rfl ?_
  refine jg_arg (pc := 2048) (k := 1) LW (by decide) (by decide) l_W_2048 1 0 rfl rfl ?_
  refine jg_aload_n (pc := 2054) X d_W_2054 4 rfl ?_
  refine jg_callH (np := 3) (rest := []) (pc := 2055) X LW.2.1 (h_moves (jwSv_r xs i 1) hw h) ky_1262 ky_1261 ky_0 ky_1260 ⟨by decide, by decide, by decide +kernel⟩ rfl rfl (Nat.le_of_ble_eq_true rfl) d_W_2055 ⟨Nat.le_of_ble_eq_true rfl, Nat.le_of_ble_eq_true rfl⟩ ⟨by show cells + 1 ≤ 319022; omega, by show slots + 6 ≤ 8139040; omega⟩ (fun r v C1 rr hw1 hp => ?_)
  refine jg_istore (pc := 2058) X ((5, jI r) :: jwLv Z i b) d_W_2058 (by decide) rfl ?_
  refine jg_aload_n (pc := 2060) X d_W_2060 4 rfl ?_
  refine jg_arg (pc := 2061) (k := 1) LW (by decide) (by decide) l_W_2061 2 1 rfl rfl ?_
  refine jg_eqst (st2 := ([jI (jwSv xs i 1)] : List Value).reverse ++ [jr Z 345]) rfl ?_
  exact law_tailI (wpm := (wp_12_moves (jwSv xs i 1))) (pc := 2067) X (fun post hq => m_12_moves (jwSv_r xs i 1) hw1 hq) jM_12_moves rfl ky_1960 ky_1463 rfl t_W_2067 u_W_2067 (by decide) hp rr hw1 ⟨Nat.le_of_ble_eq_true rfl, Nat.le_of_ble_eq_true rfl, rfl, rfl⟩ hc ⟨by show cells + 1 ≤ cells + 310; omega, by show slots + 6 ≤ slots + 9400; omega⟩ (by omega) kk
set_option maxHeartbeats 4000000 in
set_option maxRecDepth 100000 in
theorem law_29 {p : Program} {l : Launch} {e : Env} {s : State} {m : MethodId} {args : Array Value} {below : List Frame} {meth : Method} {c : Code} {Z : jE} {A : Nat → Prop} {cells slots : Nat} {Q : State → Prop} {n : Nat} {C : jC} {b L : Nat} {xs : Nat → Int32} {i K : Int} (LW : jwLaw p l s m args c Z A b L xs i) (hw : jWF n C) (h : rAll C K) (hK : K < 800000) (hc : cells + 310 ≤ 319022 ∧ slots + 9400 ≤ 8139040) (kk : jwCo p l e s m args below meth c A cells slots Q K i b) : jG p l e room_1 s m args below meth c 7 Z A (jws Z n C) cells slots Q 2103 (jwLv Z i b) [] := by
  have X := LW.1
  have hn := hw.2.2.1
  have hc1 := hc.1
  have hc2 := hc.2
  refine jg_aload_n (pc := 2103) X d_W_2103 2 rfl ?_
  refine jg_arg (pc := 2104) (k := 1) LW (by decide) (by decide) l_W_2104 1 0 rfl rfl ?_
  refine jg_arg (pc := 2110) (k := 2) LW (by decide) (by decide) l_W_2110 1 0 rfl rfl ?_
  refine jg_aload_n (pc := 2116) X d_W_2116 4 rfl ?_
  refine jg_callH (np := 4) (rest := []) (pc := 2117) X LW.2.1 (h_unlike (jwSv_r xs i 1) (jwSv_r xs i 2) hw h) ky_1278 ky_1277 ky_0 ky_1276 ⟨by decide, by decide, by decide +kernel⟩ rfl rfl (Nat.le_of_ble_eq_true rfl) d_W_2117 ⟨Nat.le_of_ble_eq_true rfl, Nat.le_of_ble_eq_true rfl⟩ ⟨by show cells + 3 ≤ 319022; omega, by show slots + 18 ≤ 8139040; omega⟩ (fun r v C1 rr hw1 hp => ?_)
  refine jg_istore (pc := 2120) X ((5, jI r) :: jwLv Z i b) d_W_2120 (by decide) rfl ?_
  refine jg_aload_n (pc := 2122) X d_W_2122 4 rfl ?_
  refine jg_arg (pc := 2123) (k := 1) LW (by decide) (by decide) l_W_2123 2 1 rfl rfl ?_
  refine jg_arg (pc := 2129) (k := 2) LW (by decide) (by decide) l_W_2129 2 1 rfl rfl ?_
  refine jg_eqst (st2 := ([jI (jwSv xs i 1), jI (jwSv xs i 2)] : List Value).reverse ++ [jr Z 345]) rfl ?_
  exact law_tailI (wpm := (wp_12_unlike (jwSv xs i 1) (jwSv xs i 2))) (pc := 2135) X (fun post hq => m_12_unlike (jwSv_r xs i 1) (jwSv_r xs i 2) hw1 hq) jM_12_unlike rfl ky_1964 ky_1463 rfl t_W_2135 u_W_2135 (by decide) hp rr hw1 ⟨Nat.le_of_ble_eq_true rfl, Nat.le_of_ble_eq_true rfl, rfl, rfl⟩ hc ⟨by show cells + 3 ≤ cells + 310; omega, by show slots + 18 ≤ slots + 9400; omega⟩ (by omega) kk
set_option maxHeartbeats 4000000 in
set_option maxRecDepth 100000 in
theorem law_30 {p : Program} {l : Launch} {e : Env} {s : State} {m : MethodId} {args : Array Value} {below : List Frame} {meth : Method} {c : Code} {Z : jE} {A : Nat → Prop} {cells slots : Nat} {Q : State → Prop} {n : Nat} {C : jC} {b L : Nat} {xs : Nat → Int32} {i K : Int} (LW : jwLaw p l s m args c Z A b L xs i) (hw : jWF n C) (h : rAll C K) (hK : K < 800000) (hc : cells + 310 ≤ 319022 ∧ slots + 9400 ≤ 8139040) (kk : jwCo p l e s m args below meth c A cells slots Q K i b) : jG p l e room_1 s m args below meth c 7 Z A (jws Z n C) cells slots Q 2171 (jwLv Z i b) [] := by
  have X := LW.1
  have hn := hw.2.2.1
  have hc1 := hc.1
  have hc2 := hc.2
  refine jg_aload_n (pc := 2171) X d_W_2171 2 rfl ?_
  refine jg_arg (pc := 2172) (k := 1) LW (by decide) (by decide) l_W_2172 1 0 rfl rfl ?_
  refine jg_arg (pc := 2178) (k := 2) LW (by decide) (by decide) l_W_2178 1 0 rfl rfl ?_
  refine jg_aload_n (pc := 2184) X d_W_2184 4 rfl ?_
  refine jg_callH (np := 4) (rest := []) (pc := 2185) X LW.2.1 (h_told (jwSv_r xs i 1) (jwSv_r xs i 2) hw h) ky_1289 ky_1288 ky_0 ky_1287 ⟨by decide, by decide, by decide +kernel⟩ rfl rfl (Nat.le_of_ble_eq_true rfl) d_W_2185 ⟨Nat.le_of_ble_eq_true rfl, Nat.le_of_ble_eq_true rfl⟩ ⟨by show cells + 1 ≤ 319022; omega, by show slots + 6 ≤ 8139040; omega⟩ (fun r v C1 rr hw1 hp => ?_)
  refine jg_istore (pc := 2188) X ((5, jI r) :: jwLv Z i b) d_W_2188 (by decide) rfl ?_
  refine jg_aload_n (pc := 2190) X d_W_2190 4 rfl ?_
  refine jg_arg (pc := 2191) (k := 1) LW (by decide) (by decide) l_W_2191 2 1 rfl rfl ?_
  refine jg_arg (pc := 2197) (k := 2) LW (by decide) (by decide) l_W_2197 2 1 rfl rfl ?_
  refine jg_eqst (st2 := ([jI (jwSv xs i 1), jI (jwSv xs i 2)] : List Value).reverse ++ [jr Z 345]) rfl ?_
  exact law_tailI (wpm := (wp_12_told (jwSv xs i 1) (jwSv xs i 2))) (pc := 2203) X (fun post hq => m_12_told (jwSv_r xs i 1) (jwSv_r xs i 2) hw1 hq) jM_12_told rfl ky_1968 ky_1463 rfl t_W_2203 u_W_2203 (by decide) hp rr hw1 ⟨Nat.le_of_ble_eq_true rfl, Nat.le_of_ble_eq_true rfl, rfl, rfl⟩ hc ⟨by show cells + 1 ≤ cells + 310; omega, by show slots + 6 ≤ slots + 9400; omega⟩ (by omega) kk
set_option maxHeartbeats 4000000 in
set_option maxRecDepth 100000 in
theorem law_31 {p : Program} {l : Launch} {e : Env} {s : State} {m : MethodId} {args : Array Value} {below : List Frame} {meth : Method} {c : Code} {Z : jE} {A : Nat → Prop} {cells slots : Nat} {Q : State → Prop} {n : Nat} {C : jC} {b L : Nat} {xs : Nat → Int32} {i K : Int} (LW : jwLaw p l s m args c Z A b L xs i) (hw : jWF n C) (h : rAll C K) (hK : K < 800000) (hc : cells + 310 ≤ 319022 ∧ slots + 9400 ≤ 8139040) (kk : jwCo p l e s m args below meth c A cells slots Q K i b) : jG p l e room_1 s m args below meth c 7 Z A (jws Z n C) cells slots Q 2239 (jwLv Z i b) [] := by
  have X := LW.1
  have hn := hw.2.2.1
  have hc1 := hc.1
  have hc2 := hc.2
  refine jg_aload_n (pc := 2239) X d_W_2239 2 rfl ?_
  refine jg_arg (pc := 2240) (k := 1) LW (by decide) (by decide) l_W_2240 1 0 rfl rfl ?_
  refine jg_arg (pc := 2246) (k := 2) LW (by decide) (by decide) l_W_2246 1 0 rfl rfl ?_
  refine jg_arg (pc := 2252) (k := 3) LW (by decide) (by decide) l_W_2252 1 0 rfl rfl ?_
  refine jg_aload_n (pc := 2258) X d_W_2258 4 rfl ?_
  refine jg_callH (np := 5) (rest := []) (pc := 2259) X LW.2.1 (h_between (jwSv_r xs i 1) (jwSv_r xs i 2) (jwSv_r xs i 3) hw h) ky_1317 ky_1316 ky_0 ky_1315 ⟨by decide, by decide, by decide +kernel⟩ rfl rfl (Nat.le_of_ble_eq_true rfl) d_W_2259 ⟨Nat.le_of_ble_eq_true rfl, Nat.le_of_ble_eq_true rfl⟩ ⟨by show cells + 4 ≤ 319022; omega, by show slots + 24 ≤ 8139040; omega⟩ (fun r v C1 rr hw1 hp => ?_)
  refine jg_istore (pc := 2262) X ((5, jI r) :: jwLv Z i b) d_W_2262 (by decide) rfl ?_
  refine jg_aload_n (pc := 2264) X d_W_2264 4 rfl ?_
  refine jg_arg (pc := 2265) (k := 1) LW (by decide) (by decide) l_W_2265 2 1 rfl rfl ?_
  refine jg_arg (pc := 2271) (k := 2) LW (by decide) (by decide) l_W_2271 2 1 rfl rfl ?_
  refine jg_arg (pc := 2277) (k := 3) LW (by decide) (by decide) l_W_2277 2 1 rfl rfl ?_
  refine jg_eqst (st2 := ([jI (jwSv xs i 1), jI (jwSv xs i 2), jI (jwSv xs i 3)] : List Value).reverse ++ [jr Z 345]) rfl ?_
  exact law_tailI (wpm := (wp_12_between (jwSv xs i 1) (jwSv xs i 2) (jwSv xs i 3))) (pc := 2283) X (fun post hq => m_12_between (jwSv_r xs i 1) (jwSv_r xs i 2) (jwSv_r xs i 3) hw1 hq) jM_12_between rfl ky_1984 ky_1463 rfl t_W_2283 u_W_2283 (by decide) hp rr hw1 ⟨Nat.le_of_ble_eq_true rfl, Nat.le_of_ble_eq_true rfl, rfl, rfl⟩ hc ⟨by show cells + 4 ≤ cells + 310; omega, by show slots + 24 ≤ slots + 9400; omega⟩ (by omega) kk
set_option maxHeartbeats 4000000 in
set_option maxRecDepth 100000 in
theorem law_32 {p : Program} {l : Launch} {e : Env} {s : State} {m : MethodId} {args : Array Value} {below : List Frame} {meth : Method} {c : Code} {Z : jE} {A : Nat → Prop} {cells slots : Nat} {Q : State → Prop} {n : Nat} {C : jC} {b L : Nat} {xs : Nat → Int32} {i K : Int} (LW : jwLaw p l s m args c Z A b L xs i) (hw : jWF n C) (h : rAll C K) (hK : K < 800000) (hc : cells + 310 ≤ 319022 ∧ slots + 9400 ≤ 8139040) (kk : jwCo p l e s m args below meth c A cells slots Q K i b) : jG p l e room_1 s m args below meth c 7 Z A (jws Z n C) cells slots Q 2319 (jwLv Z i b) [] := by
  have X := LW.1
  have hn := hw.2.2.1
  have hc1 := hc.1
  have hc2 := hc.2
  refine jg_aload_n (pc := 2319) X d_W_2319 2 rfl ?_
  refine jg_arg (pc := 2320) (k := 1) LW (by decide) (by decide) l_W_2320 1 0 rfl rfl ?_
  refine jg_arg (pc := 2326) (k := 2) LW (by decide) (by decide) l_W_2326 1 0 rfl rfl ?_
  refine jg_aload_n (pc := 2332) X d_W_2332 4 rfl ?_
  refine jg_callH (np := 4) (rest := []) (pc := 2333) X LW.2.1 (h_sum (jwSv_r xs i 1) (jwSv_r xs i 2) hw h) ky_1329 ky_1328 ky_0 ky_1327 ⟨by decide, by decide, by decide +kernel⟩ rfl rfl (Nat.le_of_ble_eq_true rfl) d_W_2333 ⟨Nat.le_of_ble_eq_true rfl, Nat.le_of_ble_eq_true rfl⟩ ⟨by show cells + 3 ≤ 319022; omega, by show slots + 18 ≤ 8139040; omega⟩ (fun r v C1 rr hw1 hp => ?_)
  refine jg_istore (pc := 2336) X ((5, jI r) :: jwLv Z i b) d_W_2336 (by decide) rfl ?_
  refine jg_aload_n (pc := 2338) X d_W_2338 4 rfl ?_
  refine jg_arg (pc := 2339) (k := 1) LW (by decide) (by decide) l_W_2339 2 1 rfl rfl ?_
  refine jg_arg (pc := 2345) (k := 2) LW (by decide) (by decide) l_W_2345 2 1 rfl rfl ?_
  refine jg_eqst (st2 := ([jI (jwSv xs i 1), jI (jwSv xs i 2)] : List Value).reverse ++ [jr Z 345]) rfl ?_
  exact law_tailI (wpm := (wp_12_sum (jwSv xs i 1) (jwSv xs i 2))) (pc := 2351) X (fun post hq => m_12_sum (jwSv_r xs i 1) (jwSv_r xs i 2) hw1 hq) jM_12_sum rfl ky_1988 ky_1463 rfl t_W_2351 u_W_2351 (by decide) hp rr hw1 ⟨Nat.le_of_ble_eq_true rfl, Nat.le_of_ble_eq_true rfl, rfl, rfl⟩ hc ⟨by show cells + 3 ≤ cells + 310; omega, by show slots + 18 ≤ slots + 9400; omega⟩ (by omega) kk
set_option maxHeartbeats 4000000 in
set_option maxRecDepth 100000 in
theorem law_33 {p : Program} {l : Launch} {e : Env} {s : State} {m : MethodId} {args : Array Value} {below : List Frame} {meth : Method} {c : Code} {Z : jE} {A : Nat → Prop} {cells slots : Nat} {Q : State → Prop} {n : Nat} {C : jC} {b L : Nat} {xs : Nat → Int32} {i K : Int} (LW : jwLaw p l s m args c Z A b L xs i) (hw : jWF n C) (h : rAll C K) (hK : K < 800000) (hc : cells + 310 ≤ 319022 ∧ slots + 9400 ≤ 8139040) (kk : jwCo p l e s m args below meth c A cells slots Q K i b) : jG p l e room_1 s m args below meth c 7 Z A (jws Z n C) cells slots Q 2387 (jwLv Z i b) [] := by
  have X := LW.1
  have hn := hw.2.2.1
  have hc1 := hc.1
  have hc2 := hc.2
  refine jg_aload_n (pc := 2387) X d_W_2387 2 rfl ?_
  refine jg_arg (pc := 2388) (k := 1) LW (by decide) (by decide) l_W_2388 1 0 rfl rfl ?_
  refine jg_arg (pc := 2394) (k := 2) LW (by decide) (by decide) l_W_2394 1 0 rfl rfl ?_
  refine jg_aload_n (pc := 2400) X d_W_2400 4 rfl ?_
  refine jg_callH (np := 4) (rest := []) (pc := 2401) X LW.2.1 (h_kinds (jwSv_r xs i 1) (jwSv_r xs i 2) hw h) ky_1346 ky_1345 ky_0 ky_1344 ⟨by decide, by decide, by decide +kernel⟩ rfl rfl (Nat.le_of_ble_eq_true rfl) d_W_2401 ⟨Nat.le_of_ble_eq_true rfl, Nat.le_of_ble_eq_true rfl⟩ ⟨by show cells + 2 ≤ 319022; omega, by show slots + 12 ≤ 8139040; omega⟩ (fun r v C1 rr hw1 hp => ?_)
  refine jg_istore (pc := 2404) X ((5, jI r) :: jwLv Z i b) d_W_2404 (by decide) rfl ?_
  refine jg_aload_n (pc := 2406) X d_W_2406 4 rfl ?_
  refine jg_arg (pc := 2407) (k := 1) LW (by decide) (by decide) l_W_2407 2 1 rfl rfl ?_
  refine jg_arg (pc := 2413) (k := 2) LW (by decide) (by decide) l_W_2413 2 1 rfl rfl ?_
  refine jg_eqst (st2 := ([jI (jwSv xs i 1), jI (jwSv xs i 2)] : List Value).reverse ++ [jr Z 345]) rfl ?_
  exact law_tailI (wpm := (wp_12_kinds (jwSv xs i 1) (jwSv xs i 2))) (pc := 2419) X (fun post hq => m_12_kinds (jwSv_r xs i 1) (jwSv_r xs i 2) hw1 hq) jM_12_kinds rfl ky_1992 ky_1463 rfl t_W_2419 u_W_2419 (by decide) hp rr hw1 ⟨Nat.le_of_ble_eq_true rfl, Nat.le_of_ble_eq_true rfl, rfl, rfl⟩ hc ⟨by show cells + 2 ≤ cells + 310; omega, by show slots + 12 ≤ slots + 9400; omega⟩ (by omega) kk
set_option maxHeartbeats 4000000 in
set_option maxRecDepth 100000 in
theorem law_34 {p : Program} {l : Launch} {e : Env} {s : State} {m : MethodId} {args : Array Value} {below : List Frame} {meth : Method} {c : Code} {Z : jE} {A : Nat → Prop} {cells slots : Nat} {Q : State → Prop} {n : Nat} {C : jC} {b L : Nat} {xs : Nat → Int32} {i K : Int} (LW : jwLaw p l s m args c Z A b L xs i) (hw : jWF n C) (h : rAll C K) (hK : K < 800000) (hc : cells + 310 ≤ 319022 ∧ slots + 9400 ≤ 8139040) (kk : jwCo p l e s m args below meth c A cells slots Q K i b) : jG p l e room_1 s m args below meth c 7 Z A (jws Z n C) cells slots Q 2455 (jwLv Z i b) [] := by
  have X := LW.1
  have hn := hw.2.2.1
  have hc1 := hc.1
  have hc2 := hc.2
  refine jg_aload_n (pc := 2455) X d_W_2455 2 rfl ?_
  refine jg_arg (pc := 2456) (k := 1) LW (by decide) (by decide) l_W_2456 1 0 rfl rfl ?_
  refine jg_arg (pc := 2462) (k := 2) LW (by decide) (by decide) l_W_2462 1 0 rfl rfl ?_
  refine jg_aload_n (pc := 2468) X d_W_2468 4 rfl ?_
  refine jg_callH (np := 4) (rest := []) (pc := 2469) X LW.2.1 (h_by (jwSv_r xs i 1) (jwSv_r xs i 2) hw h) ky_1365 ky_1364 ky_0 ky_1363 ⟨by decide, by decide, by decide +kernel⟩ rfl rfl (Nat.le_of_ble_eq_true rfl) d_W_2469 ⟨Nat.le_of_ble_eq_true rfl, Nat.le_of_ble_eq_true rfl⟩ ⟨by show cells + 2 ≤ 319022; omega, by show slots + 12 ≤ 8139040; omega⟩ (fun r v C1 rr hw1 hp => ?_)
  refine jg_istore (pc := 2472) X ((5, jI r) :: jwLv Z i b) d_W_2472 (by decide) rfl ?_
  refine jg_aload_n (pc := 2474) X d_W_2474 4 rfl ?_
  refine jg_arg (pc := 2475) (k := 1) LW (by decide) (by decide) l_W_2475 2 1 rfl rfl ?_
  refine jg_arg (pc := 2481) (k := 2) LW (by decide) (by decide) l_W_2481 2 1 rfl rfl ?_
  refine jg_eqst (st2 := ([jI (jwSv xs i 1), jI (jwSv xs i 2)] : List Value).reverse ++ [jr Z 345]) rfl ?_
  exact law_tailI (wpm := (wp_12_by (jwSv xs i 1) (jwSv xs i 2))) (pc := 2487) X (fun post hq => m_12_by (jwSv_r xs i 1) (jwSv_r xs i 2) hw1 hq) jM_12_by rfl ky_2000 ky_1463 rfl t_W_2487 u_W_2487 (by decide) hp rr hw1 ⟨Nat.le_of_ble_eq_true rfl, Nat.le_of_ble_eq_true rfl, rfl, rfl⟩ hc ⟨by show cells + 2 ≤ cells + 310; omega, by show slots + 12 ≤ slots + 9400; omega⟩ (by omega) kk
set_option maxHeartbeats 4000000 in
set_option maxRecDepth 100000 in
theorem law_35 {p : Program} {l : Launch} {e : Env} {s : State} {m : MethodId} {args : Array Value} {below : List Frame} {meth : Method} {c : Code} {Z : jE} {A : Nat → Prop} {cells slots : Nat} {Q : State → Prop} {n : Nat} {C : jC} {b L : Nat} {xs : Nat → Int32} {i K : Int} (LW : jwLaw p l s m args c Z A b L xs i) (hw : jWF n C) (h : rAll C K) (hK : K < 800000) (hc : cells + 310 ≤ 319022 ∧ slots + 9400 ≤ 8139040) (kk : jwCo p l e s m args below meth c A cells slots Q K i b) : jG p l e room_1 s m args below meth c 7 Z A (jws Z n C) cells slots Q 2523 (jwLv Z i b) [] := by
  have X := LW.1
  have hn := hw.2.2.1
  have hc1 := hc.1
  have hc2 := hc.2
  refine jg_aload_n (pc := 2523) X d_W_2523 2 rfl ?_
  refine jg_arg (pc := 2524) (k := 1) LW (by decide) (by decide) l_W_2524 1 0 rfl rfl ?_
  refine jg_arg (pc := 2530) (k := 2) LW (by decide) (by decide) l_W_2530 1 0 rfl rfl ?_
  refine jg_arg (pc := 2536) (k := 3) LW (by decide) (by decide) l_W_2536 1 0 rfl rfl ?_
  refine jg_arg (pc := 2542) (k := 4) LW (by decide) (by decide) l_W_2542 1 0 rfl rfl ?_
  refine jg_aload_n (pc := 2548) X d_W_2548 4 rfl ?_
  refine jg_callH (np := 6) (rest := []) (pc := 2549) X LW.2.1 (h_group (jwSv_r xs i 1) (jwSv_r xs i 2) (jwSv_r xs i 3) (jwSv_r xs i 4) hw h) ky_1376 ky_1375 ky_0 ky_1374 ⟨by decide, by decide, by decide +kernel⟩ rfl rfl (Nat.le_of_ble_eq_true rfl) d_W_2549 ⟨Nat.le_of_ble_eq_true rfl, Nat.le_of_ble_eq_true rfl⟩ ⟨by show cells + 3 ≤ 319022; omega, by show slots + 18 ≤ 8139040; omega⟩ (fun r v C1 rr hw1 hp => ?_)
  refine jg_istore (pc := 2552) X ((5, jI r) :: jwLv Z i b) d_W_2552 (by decide) rfl ?_
  refine jg_aload_n (pc := 2554) X d_W_2554 4 rfl ?_
  refine jg_arg (pc := 2555) (k := 1) LW (by decide) (by decide) l_W_2555 2 1 rfl rfl ?_
  refine jg_arg (pc := 2561) (k := 2) LW (by decide) (by decide) l_W_2561 2 1 rfl rfl ?_
  refine jg_arg (pc := 2567) (k := 3) LW (by decide) (by decide) l_W_2567 2 1 rfl rfl ?_
  refine jg_arg (pc := 2573) (k := 4) LW (by decide) (by decide) l_W_2573 2 1 rfl rfl ?_
  refine jg_eqst (st2 := ([jI (jwSv xs i 1), jI (jwSv xs i 2), jI (jwSv xs i 3), jI (jwSv xs i 4)] : List Value).reverse ++ [jr Z 345]) rfl ?_
  exact law_tailI (wpm := (wp_12_group (jwSv xs i 1) (jwSv xs i 2) (jwSv xs i 3) (jwSv xs i 4))) (pc := 2579) X (fun post hq => m_12_group (jwSv_r xs i 1) (jwSv_r xs i 2) (jwSv_r xs i 3) (jwSv_r xs i 4) hw1 hq) jM_12_group rfl ky_2004 ky_1463 rfl t_W_2579 u_W_2579 (by decide) hp rr hw1 ⟨Nat.le_of_ble_eq_true rfl, Nat.le_of_ble_eq_true rfl, rfl, rfl⟩ hc ⟨by show cells + 3 ≤ cells + 310; omega, by show slots + 18 ≤ slots + 9400; omega⟩ (by omega) kk
set_option maxHeartbeats 4000000 in
set_option maxRecDepth 100000 in
theorem law_36 {p : Program} {l : Launch} {e : Env} {s : State} {m : MethodId} {args : Array Value} {below : List Frame} {meth : Method} {c : Code} {Z : jE} {A : Nat → Prop} {cells slots : Nat} {Q : State → Prop} {n : Nat} {C : jC} {b L : Nat} {xs : Nat → Int32} {i K : Int} (LW : jwLaw p l s m args c Z A b L xs i) (hw : jWF n C) (h : rAll C K) (hK : K < 800000) (hc : cells + 310 ≤ 319022 ∧ slots + 9400 ≤ 8139040) (kk : jwCo p l e s m args below meth c A cells slots Q K i b) : jG p l e room_1 s m args below meth c 7 Z A (jws Z n C) cells slots Q 2615 (jwLv Z i b) [] := by
  have X := LW.1
  have hn := hw.2.2.1
  have hc1 := hc.1
  have hc2 := hc.2
  refine jg_aload_n (pc := 2615) X d_W_2615 2 rfl ?_
  refine jg_arg (pc := 2616) (k := 1) LW (by decide) (by decide) l_W_2616 1 0 rfl rfl ?_
  refine jg_arg (pc := 2622) (k := 2) LW (by decide) (by decide) l_W_2622 1 0 rfl rfl ?_
  refine jg_arg (pc := 2628) (k := 3) LW (by decide) (by decide) l_W_2628 1 0 rfl rfl ?_
  refine jg_arg (pc := 2634) (k := 4) LW (by decide) (by decide) l_W_2634 1 0 rfl rfl ?_
  refine jg_aload_n (pc := 2640) X d_W_2640 4 rfl ?_
  refine jg_callH (np := 6) (rest := []) (pc := 2641) X LW.2.1 (h_total (jwSv_r xs i 1) (jwSv_r xs i 2) (jwSv_r xs i 3) (jwSv_r xs i 4) hw h) ky_1399 ky_1398 ky_0 ky_1397 ⟨by decide, by decide, by decide +kernel⟩ rfl rfl (Nat.le_of_ble_eq_true rfl) d_W_2641 ⟨Nat.le_of_ble_eq_true rfl, Nat.le_of_ble_eq_true rfl⟩ ⟨by show cells + 5 ≤ 319022; omega, by show slots + 30 ≤ 8139040; omega⟩ (fun r v C1 rr hw1 hp => ?_)
  refine jg_istore (pc := 2644) X ((5, jI r) :: jwLv Z i b) d_W_2644 (by decide) rfl ?_
  refine jg_aload_n (pc := 2646) X d_W_2646 4 rfl ?_
  refine jg_arg (pc := 2647) (k := 1) LW (by decide) (by decide) l_W_2647 2 1 rfl rfl ?_
  refine jg_arg (pc := 2653) (k := 2) LW (by decide) (by decide) l_W_2653 2 1 rfl rfl ?_
  refine jg_arg (pc := 2659) (k := 3) LW (by decide) (by decide) l_W_2659 2 1 rfl rfl ?_
  refine jg_arg (pc := 2665) (k := 4) LW (by decide) (by decide) l_W_2665 2 1 rfl rfl ?_
  refine jg_eqst (st2 := ([jI (jwSv xs i 1), jI (jwSv xs i 2), jI (jwSv xs i 3), jI (jwSv xs i 4)] : List Value).reverse ++ [jr Z 345]) rfl ?_
  exact law_tailI (wpm := (wp_12_total (jwSv xs i 1) (jwSv xs i 2) (jwSv xs i 3) (jwSv xs i 4))) (pc := 2671) X (fun post hq => m_12_total (jwSv_r xs i 1) (jwSv_r xs i 2) (jwSv_r xs i 3) (jwSv_r xs i 4) hw1 hq) jM_12_total rfl ky_2016 ky_1463 rfl t_W_2671 u_W_2671 (by decide) hp rr hw1 ⟨Nat.le_of_ble_eq_true rfl, Nat.le_of_ble_eq_true rfl, rfl, rfl⟩ hc ⟨by show cells + 5 ≤ cells + 310; omega, by show slots + 30 ≤ slots + 9400; omega⟩ (by omega) kk
set_option maxHeartbeats 4000000 in
set_option maxRecDepth 100000 in
theorem law_37 {p : Program} {l : Launch} {e : Env} {s : State} {m : MethodId} {args : Array Value} {below : List Frame} {meth : Method} {c : Code} {Z : jE} {A : Nat → Prop} {cells slots : Nat} {Q : State → Prop} {n : Nat} {C : jC} {b L : Nat} {xs : Nat → Int32} {i K : Int} (LW : jwLaw p l s m args c Z A b L xs i) (hw : jWF n C) (h : rAll C K) (hK : K < 800000) (hc : cells + 310 ≤ 319022 ∧ slots + 9400 ≤ 8139040) (kk : jwCo p l e s m args below meth c A cells slots Q K i b) : jG p l e room_1 s m args below meth c 7 Z A (jws Z n C) cells slots Q 2707 (jwLv Z i b) [] := by
  have X := LW.1
  have hn := hw.2.2.1
  have hc1 := hc.1
  have hc2 := hc.2
  refine jg_aload_n (pc := 2707) X d_W_2707 2 rfl ?_
  refine jg_arg (pc := 2708) (k := 1) LW (by decide) (by decide) l_W_2708 1 0 rfl rfl ?_
  refine jg_arg (pc := 2714) (k := 2) LW (by decide) (by decide) l_W_2714 1 0 rfl rfl ?_
  refine jg_aload_n (pc := 2720) X d_W_2720 4 rfl ?_
  refine jg_callH (np := 4) (rest := []) (pc := 2721) X LW.2.1 (h_middle (jwSv_r xs i 1) (jwSv_r xs i 2) hw h) ky_1410 ky_1409 ky_0 ky_1408 ⟨by decide, by decide, by decide +kernel⟩ rfl rfl (Nat.le_of_ble_eq_true rfl) d_W_2721 ⟨Nat.le_of_ble_eq_true rfl, Nat.le_of_ble_eq_true rfl⟩ ⟨by show cells + 2 ≤ 319022; omega, by show slots + 12 ≤ 8139040; omega⟩ (fun r v C1 rr hw1 hp => ?_)
  refine jg_istore (pc := 2724) X ((5, jI r) :: jwLv Z i b) d_W_2724 (by decide) rfl ?_
  refine jg_aload_n (pc := 2726) X d_W_2726 4 rfl ?_
  refine jg_arg (pc := 2727) (k := 1) LW (by decide) (by decide) l_W_2727 2 1 rfl rfl ?_
  refine jg_arg (pc := 2733) (k := 2) LW (by decide) (by decide) l_W_2733 2 1 rfl rfl ?_
  refine jg_eqst (st2 := ([jI (jwSv xs i 1), jI (jwSv xs i 2)] : List Value).reverse ++ [jr Z 345]) rfl ?_
  exact law_tailI (wpm := (wp_12_middle (jwSv xs i 1) (jwSv xs i 2))) (pc := 2739) X (fun post hq => m_12_middle (jwSv_r xs i 1) (jwSv_r xs i 2) hw1 hq) jM_12_middle rfl ky_2020 ky_1463 rfl t_W_2739 u_W_2739 (by decide) hp rr hw1 ⟨Nat.le_of_ble_eq_true rfl, Nat.le_of_ble_eq_true rfl, rfl, rfl⟩ hc ⟨by show cells + 2 ≤ cells + 310; omega, by show slots + 12 ≤ slots + 9400; omega⟩ (by omega) kk
set_option maxHeartbeats 4000000 in
set_option maxRecDepth 100000 in
theorem law_38 {p : Program} {l : Launch} {e : Env} {s : State} {m : MethodId} {args : Array Value} {below : List Frame} {meth : Method} {c : Code} {Z : jE} {A : Nat → Prop} {cells slots : Nat} {Q : State → Prop} {n : Nat} {C : jC} {b L : Nat} {xs : Nat → Int32} {i K : Int} (LW : jwLaw p l s m args c Z A b L xs i) (hw : jWF n C) (h : rAll C K) (hK : K < 800000) (hc : cells + 310 ≤ 319022 ∧ slots + 9400 ≤ 8139040) (kk : jwCo p l e s m args below meth c A cells slots Q K i b) : jG p l e room_1 s m args below meth c 7 Z A (jws Z n C) cells slots Q 2775 (jwLv Z i b) [] := by
  have X := LW.1
  have hn := hw.2.2.1
  have hc1 := hc.1
  have hc2 := hc.2
  refine jg_aload_n (pc := 2775) X d_W_2775 2 rfl ?_
  refine jg_arg (pc := 2776) (k := 1) LW (by decide) (by decide) l_W_2776 1 0 rfl rfl ?_
  refine jg_aload_n (pc := 2782) X d_W_2782 4 rfl ?_
  refine jg_callH (np := 3) (rest := []) (pc := 2783) X LW.2.1 (h_twice (jwSv_r xs i 1) hw h) ky_1421 ky_1420 ky_0 ky_1419 ⟨by decide, by decide, by decide +kernel⟩ rfl rfl (Nat.le_of_ble_eq_true rfl) d_W_2783 ⟨Nat.le_of_ble_eq_true rfl, Nat.le_of_ble_eq_true rfl⟩ ⟨by show cells + 1 ≤ 319022; omega, by show slots + 6 ≤ 8139040; omega⟩ (fun r v C1 rr hw1 hp => ?_)
  refine jg_istore (pc := 2786) X ((5, jI r) :: jwLv Z i b) d_W_2786 (by decide) rfl ?_
  refine jg_aload_n (pc := 2788) X d_W_2788 4 rfl ?_
  refine jg_arg (pc := 2789) (k := 1) LW (by decide) (by decide) l_W_2789 2 1 rfl rfl ?_
  refine jg_eqst (st2 := ([jI (jwSv xs i 1)] : List Value).reverse ++ [jr Z 345]) rfl ?_
  exact law_tailI (wpm := (wp_12_twice (jwSv xs i 1))) (pc := 2795) X (fun post hq => m_12_twice (jwSv_r xs i 1) hw1 hq) jM_12_twice rfl ky_2028 ky_1463 rfl t_W_2795 u_W_2795 (by decide) hp rr hw1 ⟨Nat.le_of_ble_eq_true rfl, Nat.le_of_ble_eq_true rfl, rfl, rfl⟩ hc ⟨by show cells + 1 ≤ cells + 310; omega, by show slots + 6 ≤ slots + 9400; omega⟩ (by omega) kk
set_option maxHeartbeats 4000000 in
set_option maxRecDepth 100000 in
theorem law_39 {p : Program} {l : Launch} {e : Env} {s : State} {m : MethodId} {args : Array Value} {below : List Frame} {meth : Method} {c : Code} {Z : jE} {A : Nat → Prop} {cells slots : Nat} {Q : State → Prop} {n : Nat} {C : jC} {b L : Nat} {xs : Nat → Int32} {i K : Int} (LW : jwLaw p l s m args c Z A b L xs i) (hw : jWF n C) (h : rAll C K) (hK : K < 800000) (hc : cells + 310 ≤ 319022 ∧ slots + 9400 ≤ 8139040) (kk : jwCo p l e s m args below meth c A cells slots Q K i b) : jG p l e room_1 s m args below meth c 7 Z A (jws Z n C) cells slots Q 2831 (jwLv Z i b) [] := by
  have X := LW.1
  have hn := hw.2.2.1
  have hc1 := hc.1
  have hc2 := hc.2
  refine jg_aload_n (pc := 2831) X d_W_2831 2 rfl ?_
  refine jg_arg (pc := 2832) (k := 1) LW (by decide) (by decide) l_W_2832 1 0 rfl rfl ?_
  refine jg_aload_n (pc := 2838) X d_W_2838 4 rfl ?_
  refine jg_callH (np := 3) (rest := []) (pc := 2839) X LW.2.1 (h_barred (jwSv_r xs i 1) hw h) ky_1437 ky_1436 ky_0 ky_1435 ⟨by decide, by decide, by decide +kernel⟩ rfl rfl (Nat.le_of_ble_eq_true rfl) d_W_2839 ⟨Nat.le_of_ble_eq_true rfl, Nat.le_of_ble_eq_true rfl⟩ ⟨by show cells + 1 ≤ 319022; omega, by show slots + 6 ≤ 8139040; omega⟩ (fun r v C1 rr hw1 hp => ?_)
  refine jg_istore (pc := 2842) X ((5, jI r) :: jwLv Z i b) d_W_2842 (by decide) rfl ?_
  refine jg_aload_n (pc := 2844) X d_W_2844 4 rfl ?_
  refine jg_arg (pc := 2845) (k := 1) LW (by decide) (by decide) l_W_2845 2 1 rfl rfl ?_
  refine jg_eqst (st2 := ([jI (jwSv xs i 1)] : List Value).reverse ++ [jr Z 345]) rfl ?_
  exact law_tailI (wpm := (wp_12_barred (jwSv xs i 1))) (pc := 2851) X (fun post hq => m_12_barred (jwSv_r xs i 1) hw1 hq) jM_12_barred rfl ky_1872 ky_1463 rfl t_W_2851 u_W_2851 (by decide) hp rr hw1 ⟨Nat.le_of_ble_eq_true rfl, Nat.le_of_ble_eq_true rfl, rfl, rfl⟩ hc ⟨by show cells + 1 ≤ cells + 310; omega, by show slots + 6 ≤ slots + 9400; omega⟩ (by omega) kk
set_option maxHeartbeats 4000000 in
set_option maxRecDepth 100000 in
theorem law_40 {p : Program} {l : Launch} {e : Env} {s : State} {m : MethodId} {args : Array Value} {below : List Frame} {meth : Method} {c : Code} {Z : jE} {A : Nat → Prop} {cells slots : Nat} {Q : State → Prop} {n : Nat} {C : jC} {b L : Nat} {xs : Nat → Int32} {i K : Int} (LW : jwLaw p l s m args c Z A b L xs i) (hw : jWF n C) (h : rAll C K) (hK : K < 800000) (hc : cells + 310 ≤ 319022 ∧ slots + 9400 ≤ 8139040) (kk : jwCo p l e s m args below meth c A cells slots Q K i b) : jG p l e room_1 s m args below meth c 7 Z A (jws Z n C) cells slots Q 2887 (jwLv Z i b) [] := by
  have X := LW.1
  have hn := hw.2.2.1
  have hc1 := hc.1
  have hc2 := hc.2
  refine jg_aload_n (pc := 2887) X d_W_2887 2 rfl ?_
  refine jg_arg (pc := 2888) (k := 1) LW (by decide) (by decide) l_W_2888 1 0 rfl rfl ?_
  refine jg_arg (pc := 2894) (k := 2) LW (by decide) (by decide) l_W_2894 1 0 rfl rfl ?_
  refine jg_arg (pc := 2900) (k := 3) LW (by decide) (by decide) l_W_2900 1 0 rfl rfl ?_
  refine jg_arg (pc := 2906) (k := 4) LW (by decide) (by decide) l_W_2906 1 0 rfl rfl ?_
  refine jg_aload_n (pc := 2912) X d_W_2912 4 rfl ?_
  refine jg_callH (np := 6) (rest := []) (pc := 2913) X LW.2.1 (h_find (jwSv_r xs i 1) (jwSv_r xs i 2) (jwSv_r xs i 3) (jwSv_r xs i 4) hw h) ky_1444 ky_1443 ky_0 ky_1442 ⟨by decide, by decide, by decide +kernel⟩ rfl rfl (Nat.le_of_ble_eq_true rfl) d_W_2913 ⟨Nat.le_of_ble_eq_true rfl, Nat.le_of_ble_eq_true rfl⟩ ⟨by show cells + 3 ≤ 319022; omega, by show slots + 18 ≤ 8139040; omega⟩ (fun r v C1 rr hw1 hp => ?_)
  refine jg_istore (pc := 2916) X ((5, jI r) :: jwLv Z i b) d_W_2916 (by decide) rfl ?_
  refine jg_aload_n (pc := 2918) X d_W_2918 4 rfl ?_
  refine jg_arg (pc := 2919) (k := 1) LW (by decide) (by decide) l_W_2919 2 1 rfl rfl ?_
  refine jg_arg (pc := 2925) (k := 2) LW (by decide) (by decide) l_W_2925 2 1 rfl rfl ?_
  refine jg_arg (pc := 2931) (k := 3) LW (by decide) (by decide) l_W_2931 2 1 rfl rfl ?_
  refine jg_arg (pc := 2937) (k := 4) LW (by decide) (by decide) l_W_2937 2 1 rfl rfl ?_
  refine jg_eqst (st2 := ([jI (jwSv xs i 1), jI (jwSv xs i 2), jI (jwSv xs i 3), jI (jwSv xs i 4)] : List Value).reverse ++ [jr Z 345]) rfl ?_
  exact law_tailI (wpm := (wp_12_find (jwSv xs i 1) (jwSv xs i 2) (jwSv xs i 3) (jwSv xs i 4))) (pc := 2943) X (fun post hq => m_12_find (jwSv_r xs i 1) (jwSv_r xs i 2) (jwSv_r xs i 3) (jwSv_r xs i 4) hw1 hq) jM_12_find rfl ky_2036 ky_1463 rfl t_W_2943 u_W_2943 (by decide) hp rr hw1 ⟨Nat.le_of_ble_eq_true rfl, Nat.le_of_ble_eq_true rfl, rfl, rfl⟩ hc ⟨by show cells + 3 ≤ cells + 310; omega, by show slots + 18 ≤ slots + 9400; omega⟩ (by omega) kk
set_option maxHeartbeats 4000000 in
set_option maxRecDepth 100000 in
theorem law_41 {p : Program} {l : Launch} {e : Env} {s : State} {m : MethodId} {args : Array Value} {below : List Frame} {meth : Method} {c : Code} {Z : jE} {A : Nat → Prop} {cells slots : Nat} {Q : State → Prop} {n : Nat} {C : jC} {b L : Nat} {xs : Nat → Int32} {i K : Int} (LW : jwLaw p l s m args c Z A b L xs i) (hw : jWF n C) (h : rAll C K) (hK : K < 800000) (hc : cells + 310 ≤ 319022 ∧ slots + 9400 ≤ 8139040) (kk : jwCo p l e s m args below meth c A cells slots Q K i b) : jG p l e room_1 s m args below meth c 7 Z A (jws Z n C) cells slots Q 2979 (jwLv Z i b) [] := by
  have X := LW.1
  have hn := hw.2.2.1
  have hc1 := hc.1
  have hc2 := hc.2
  refine jg_aload_n (pc := 2979) X d_W_2979 2 rfl ?_
  refine jg_arg (pc := 2980) (k := 1) LW (by decide) (by decide) l_W_2980 1 0 rfl rfl ?_
  refine jg_arg (pc := 2986) (k := 2) LW (by decide) (by decide) l_W_2986 1 0 rfl rfl ?_
  refine jg_aload_n (pc := 2992) X d_W_2992 4 rfl ?_
  refine jg_callH (np := 4) (rest := []) (pc := 2993) X LW.2.1 (h_log (jwSv_r xs i 1) (jwSv_r xs i 2) hw h) ky_1451 ky_1450 ky_0 ky_1449 ⟨by decide, by decide, by decide +kernel⟩ rfl rfl (Nat.le_of_ble_eq_true rfl) d_W_2993 ⟨Nat.le_of_ble_eq_true rfl, Nat.le_of_ble_eq_true rfl⟩ ⟨by show cells + 1 ≤ 319022; omega, by show slots + 6 ≤ 8139040; omega⟩ (fun r v C1 rr hw1 hp => ?_)
  refine jg_istore (pc := 2996) X ((5, jI r) :: jwLv Z i b) d_W_2996 (by decide) rfl ?_
  refine jg_aload_n (pc := 2998) X d_W_2998 4 rfl ?_
  refine jg_arg (pc := 2999) (k := 1) LW (by decide) (by decide) l_W_2999 2 1 rfl rfl ?_
  refine jg_arg (pc := 3005) (k := 2) LW (by decide) (by decide) l_W_3005 2 1 rfl rfl ?_
  refine jg_eqst (st2 := ([jI (jwSv xs i 1), jI (jwSv xs i 2)] : List Value).reverse ++ [jr Z 345]) rfl ?_
  exact law_tailI (wpm := (wp_12_log (jwSv xs i 1) (jwSv xs i 2))) (pc := 3011) X (fun post hq => m_12_log (jwSv_r xs i 1) (jwSv_r xs i 2) hw1 hq) jM_12_log rfl ky_2040 ky_1463 rfl t_W_3011 u_W_3011 (by decide) hp rr hw1 ⟨Nat.le_of_ble_eq_true rfl, Nat.le_of_ble_eq_true rfl, rfl, rfl⟩ hc ⟨by show cells + 1 ≤ cells + 310; omega, by show slots + 6 ≤ slots + 9400; omega⟩ (by omega) kk
set_option maxHeartbeats 4000000 in
set_option maxRecDepth 100000 in
theorem law_42 {p : Program} {l : Launch} {e : Env} {s : State} {m : MethodId} {args : Array Value} {below : List Frame} {meth : Method} {c : Code} {Z : jE} {A : Nat → Prop} {cells slots : Nat} {Q : State → Prop} {n : Nat} {C : jC} {b L : Nat} {xs : Nat → Int32} {i K : Int} (LW : jwLaw p l s m args c Z A b L xs i) (hw : jWF n C) (h : rAll C K) (hK : K < 800000) (hc : cells + 310 ≤ 319022 ∧ slots + 9400 ≤ 8139040) (kk : jwCo p l e s m args below meth c A cells slots Q K i b) : jG p l e room_1 s m args below meth c 7 Z A (jws Z n C) cells slots Q 3047 (jwLv Z i b) [] := by
  have X := LW.1
  have hn := hw.2.2.1
  have hc1 := hc.1
  have hc2 := hc.2
  refine jg_aload_n (pc := 3047) X d_W_3047 2 rfl ?_
  have hi := op_image hw h
  refine jg_imcall (pc := 3048) X hn (m_image hw hi.1 hi.2) ky_384 d_W_3048 (Nat.le_of_ble_eq_true rfl) ⟨Nat.le_of_ble_eq_true rfl, Nat.le_of_ble_eq_true rfl⟩ ⟨by show cells + 304 ≤ 319022; omega, by show slots + 9379 ≤ 8139040; omega⟩ (fun ad C1 had hw1 hp => ?_)
  have X2 : jX p l s m args c code "PrivateViewsLaw" 7 (jZa Z ad) A := X
  have e0 : jr Z 0 = jr (jZa Z ad) 0 := congrArg Value.ref (had 0 (by decide)).symm
  have e1 : jr Z 345 = jr (jZa Z ad) 345 := congrArg Value.ref (had 345 (by decide)).symm
  have e2 : jr Z 356 = jr (jZa Z ad) 356 := congrArg Value.ref (had 356 (by decide)).symm
  refine jg_eqlv (lv2 := jwLv (jZa Z ad) i b) (by show [_, _, (1, jr Z 0), (2, jr Z 345), (3, jr Z 356)] = _; rw [e0, e1, e2]) ?_
  show jG p l e room_1 s m args below meth c 7 (jZa Z ad) A (jws (jZa Z ad) 661 C1) (cells + 304) (slots + 9379) Q 3051 (jwLv (jZa Z ad) i b) []
  refine jg_aload_n (pc := 3051) X2 d_W_3051 3 rfl ?_
  refine jg_callVv (rest := []) (pc := 3052) X2 (m_12_image hw1 hp) jM_12_image ky_1531 (jl_345_12 hw1.2.2.1) rfl rfl rfl rfl rfl (Nat.le_of_ble_eq_true rfl) d_W_3052 ⟨Nat.le_of_ble_eq_true rfl, Nat.le_of_ble_eq_true rfl⟩ ⟨by show cells + 304 + 0 ≤ 319022; omega, by show slots + 9379 + 0 ≤ 8139040; omega⟩ (fun C2 hw2 hp2 => ?_)
  refine jg_goto (tgt := 3096) (pc := 3055) X2 d_W_3055 (by decide) ?_
  refine jg_widen (cells2 := cells + 310) (slots2 := slots + 9400) (by show cells + 304 + 0 ≤ cells + 310; omega) (by show slots + 9379 + 0 ≤ slots + 9400; omega) ?_
  exact kk (jZa Z ad) 661 C2 X2 hw2 (rAll_mono hp2.2 (by omega))
set_option maxHeartbeats 4000000 in
set_option maxRecDepth 100000 in
theorem law_43 {p : Program} {l : Launch} {e : Env} {s : State} {m : MethodId} {args : Array Value} {below : List Frame} {meth : Method} {c : Code} {Z : jE} {A : Nat → Prop} {cells slots : Nat} {Q : State → Prop} {n : Nat} {C : jC} {b L : Nat} {xs : Nat → Int32} {i K : Int} (LW : jwLaw p l s m args c Z A b L xs i) (hw : jWF n C) (h : rAll C K) (hK : K < 800000) (hc : cells + 310 ≤ 319022 ∧ slots + 9400 ≤ 8139040) (kk : jwCo p l e s m args below meth c A cells slots Q K i b) : jG p l e room_1 s m args below meth c 7 Z A (jws Z n C) cells slots Q 3058 (jwLv Z i b) [] := by
  have X := LW.1
  have hn := hw.2.2.1
  have hc1 := hc.1
  have hc2 := hc.2
  refine jg_aload_n (pc := 3058) X d_W_3058 2 rfl ?_
  refine jg_callVi (rest := []) (pc := 3059) X (m_11_back hw (op_back h)) jM_11_back ky_432 (jl_0_11 hn) rfl rfl rfl rfl rfl (Nat.le_of_ble_eq_true rfl) d_W_3059 ⟨Nat.le_of_ble_eq_true rfl, Nat.le_of_ble_eq_true rfl⟩ ⟨by show cells + 0 ≤ 319022; omega, by show slots + 0 ≤ 8139040; omega⟩ (fun r C1 rr hw1 hp => ?_)
  refine jg_aload_n (pc := 3062) X d_W_3062 3 rfl ?_
  refine jg_callVi (rest := [jI r]) (pc := 3063) X (m_12_back hw1 hp) jM_12_back ky_1535 (jl_345_12 hn) rfl rfl rfl rfl rfl (Nat.le_of_ble_eq_true rfl) d_W_3063 ⟨Nat.le_of_ble_eq_true rfl, Nat.le_of_ble_eq_true rfl⟩ ⟨by show cells + 0 + 0 ≤ 319022; omega, by show slots + 0 + 0 ≤ 8139040; omega⟩ (fun b2 C2 rb hw2 hp2 => ?_)
  obtain ⟨p1, p2, p3⟩ := hp2
  refine jg_icmp_eq (T := True) (F := False) (tgt := 3096) (pc := 3066) X d_W_3066 (by decide) rr rb (by rw [if_pos p2.symm]; trivial) (fun _ _ => ?_) (fun _ q => q.elim)
  refine jg_widen (cells2 := cells + 310) (slots2 := slots + 9400) (by show cells + 0 + 0 ≤ cells + 310; omega) (by show slots + 0 + 0 ≤ slots + 9400; omega) ?_
  exact kk Z n C2 X hw2 (rAll_mono p3 (by omega))
set_option maxHeartbeats 4000000 in
set_option maxRecDepth 100000 in
theorem law_44 {p : Program} {l : Launch} {e : Env} {s : State} {m : MethodId} {args : Array Value} {below : List Frame} {meth : Method} {c : Code} {Z : jE} {A : Nat → Prop} {cells slots : Nat} {Q : State → Prop} {n : Nat} {C : jC} {b L : Nat} {xs : Nat → Int32} {i K : Int} (LW : jwLaw p l s m args c Z A b L xs i) (hw : jWF n C) (h : rAll C K) (hK : K < 800000) (hc : cells + 310 ≤ 319022 ∧ slots + 9400 ≤ 8139040) (kk : jwCo p l e s m args below meth c A cells slots Q K i b) : jG p l e room_1 s m args below meth c 7 Z A (jws Z n C) cells slots Q 3071 (jwLv Z i b) [] := by
  have X := LW.1
  have hn := hw.2.2.1
  have hc1 := hc.1
  have hc2 := hc.2
  refine jg_aload_n (pc := 3071) X d_W_3071 2 rfl ?_
  refine jg_arg (pc := 3072) (k := 1) LW (by decide) (by decide) l_W_3072 1 0 rfl rfl ?_
  refine jg_pcallVi (rest := []) (pc := 3078) X (m_11_count (jwSv_r xs i 1) hw (op_count h)) jM_11_count ky_436 (jl_0_11 hn) rfl rfl rfl rfl rfl (Nat.le_of_ble_eq_true rfl) d_W_3078 ⟨Nat.le_of_ble_eq_true rfl, Nat.le_of_ble_eq_true rfl⟩ ⟨by show cells + 0 ≤ 319022; omega, by show slots + 0 ≤ 8139040; omega⟩ (fun r rr hp => ?_)
  refine jg_aload_n (pc := 3081) X d_W_3081 3 rfl ?_
  refine jg_arg (pc := 3082) (k := 1) LW (by decide) (by decide) l_W_3082 1 0 rfl rfl ?_
  refine jg_callVi (rest := [jI r]) (pc := 3088) X (m_12_count (jwSv_r xs i 1) hw hp) jM_12_count ky_2044 (jl_345_12 hn) rfl rfl rfl rfl rfl (Nat.le_of_ble_eq_true rfl) d_W_3088 ⟨Nat.le_of_ble_eq_true rfl, Nat.le_of_ble_eq_true rfl⟩ ⟨by show cells + 0 + 0 ≤ 319022; omega, by show slots + 0 + 0 ≤ 8139040; omega⟩ (fun b2 C2 rb hw2 hp2 => ?_)
  obtain ⟨p1, p2, p3⟩ := hp2
  refine jg_icmp_eq (T := True) (F := False) (tgt := 3096) (pc := 3091) X d_W_3091 (by decide) rr rb (by rw [if_pos p2.symm]; trivial) (fun _ _ => ?_) (fun _ q => q.elim)
  refine jg_widen (cells2 := cells + 310) (slots2 := slots + 9400) (by show cells + 0 + 0 ≤ cells + 310; omega) (by show slots + 0 + 0 ≤ slots + 9400; omega) ?_
  exact kk Z n C2 X hw2 (rAll_mono p3 (by omega))
