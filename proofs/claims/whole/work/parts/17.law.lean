/-! the law, read back from its loop on (wip/whole/law.py) -/
def f_L_law_128 (L : Nat) (xs : Nat → Int32) (rec : Int32 → go_V → Option go_R) (x4 : Int32) (v : go_V) : Option go_R := gd (go_in (x4 + (1 : Int32)) L) (gd (go_in (x4 + (2 : Int32)) L) (gd (go_in (x4 + (3 : Int32)) L) (bd (f_L_row (xs (x4 + (1 : Int32)).toNatClampNeg) (xs (x4 + (2 : Int32)).toNatClampNeg) (xs (x4 + (3 : Int32)).toNatClampNeg) v) (fun r_4 => nt r_4 (gd (go_in (x4 + (1 : Int32)) L) (gd (go_in (x4 + (2 : Int32)) L) (gd (go_in (x4 + (3 : Int32)) L) (bd (f_M_row (xs (x4 + (1 : Int32)).toNatClampNeg) (xs (x4 + (2 : Int32)).toNatClampNeg) (xs (x4 + (3 : Int32)).toNatClampNeg) r_4.2.2.2) (fun r_10 => nt r_10 (bd (f_M_thrown r_10.2.2.2) (fun r_13 => nt r_13 (br (decide (r_13.2.1 = r_4.2.1)) (rec ((x4 + 5)) (r_13.2.2.2)) (none)))))))))))))
set_option maxHeartbeats 4000000 in
set_option maxRecDepth 100000 in
theorem b_L_law_128 {l : Launch} {G : go_G} {ad : Nat → Nat} {b L : Nat} {xs : Nat → Int32} (hl : l.stackTraces = false) (rec : Int32 → go_V → Option go_R) {r : go_R} {n : Nat} (hrec : ∀ (x4 : Int32) (v : go_V) (c s : Nat), c + 8 * n ≤ 621509 ∧ s + 48 * n ≤ 7231577 → rec x4 v = some r → Go l G M_L_law (go_ExL b L xs) (go_EnL b) ad v [(0, .ref b), (1, .ref (ad 0)), (2, .ref (ad 100)), (3, .ref (ad 119)), (4, .int x4)] 23 [] c s) (x4 : Int32) (v : go_V) (c s : Nat) (hb : c + 8 * (n + 1) ≤ 621509 ∧ s + 48 * (n + 1) ≤ 7231577) (h : f_L_law_128 L xs rec x4 v = some r) : Go l G M_L_law (go_ExL b L xs) (go_EnL b) ad v [(0, .ref b), (1, .ref (ad 0)), (2, .ref (ad 100)), (3, .ref (ad 119)), (4, .int x4)] 128 [] c s := by
  unfold f_L_law_128 at h
  refine go_aload_n (d_L_law_0 128 rfl) rfl rfl ?_
  refine go_aload_n (d_L_law_0 129 rfl) rfl rfl ?_
  refine go_iload (d_L_law_0 130 rfl) rfl ?_
  refine go_iconst (x := (1 : Int32)) (d_L_law_0 132 rfl) (by decide) ?_
  refine go_iadd (d_L_law_0 133 rfl) ?_
  obtain ⟨g_1, h⟩ := gd_some h
  refine go_sld (d_L_law_1 134 rfl) g_1 ?_
  refine go_aload_n (d_L_law_1 135 rfl) rfl rfl ?_
  refine go_iload (d_L_law_1 136 rfl) rfl ?_
  refine go_iconst (x := (2 : Int32)) (d_L_law_1 138 rfl) (by decide) ?_
  refine go_iadd (d_L_law_1 139 rfl) ?_
  obtain ⟨g_2, h⟩ := gd_some h
  refine go_sld (d_L_law_1 140 rfl) g_2 ?_
  refine go_aload_n (d_L_law_1 141 rfl) rfl rfl ?_
  refine go_iload (d_L_law_1 142 rfl) rfl ?_
  refine go_iconst (x := (3 : Int32)) (d_L_law_1 144 rfl) (by decide) ?_
  refine go_iadd (d_L_law_1 145 rfl) ?_
  obtain ⟨g_3, h⟩ := gd_some h
  refine go_sld (d_L_law_1 146 rfl) g_3 ?_
  obtain ⟨r_4, o_5, h⟩ := bd_some h
  obtain ⟨z_6, h⟩ := nt_some h
  refine go_cX (As := [.ref (ad (0)), .int ((xs (x4 + (1 : Int32)).toNatClampNeg)), .int ((xs (x4 + (2 : Int32)).toNatClampNeg)), .int ((xs (x4 + (3 : Int32)).toNatClampNeg))]) (rest := []) (st2 := [.int (r_4.2.1)]) (c2 := c + 3) (s2 := s + 18) rfl rfl rfl rfl (Ca_L_row hl o_5)  (d_L_law_1 147 rfl) cw_L_84 w_180 ⟨by decide, by decide⟩ rfl (Nat.le_of_ble_eq_true rfl) ⟨(by omega : c + 3 ≤ 621509), (by omega : s + 18 ≤ 7231577)⟩ (fun _ => ?_) (fun q => absurd z_6 q)
  refine go_istore (lv' := [(0, .ref b), (1, .ref (ad (0))), (2, .ref (ad (100))), (3, .ref (ad (119))), (4, .int x4), (5, .int (r_4.2.1))]) (d_L_law_1 150 rfl) (by decide) rfl ?_
  refine go_aload_n (d_L_law_1 152 rfl) rfl rfl ?_
  refine go_aload_n (d_L_law_1 153 rfl) rfl rfl ?_
  refine go_iload (d_L_law_1 154 rfl) rfl ?_
  refine go_iconst (x := (1 : Int32)) (d_L_law_1 156 rfl) (by decide) ?_
  refine go_iadd (d_L_law_1 157 rfl) ?_
  obtain ⟨g_7, h⟩ := gd_some h
  refine go_sld (d_L_law_1 158 rfl) g_7 ?_
  refine go_aload_n (d_L_law_1 159 rfl) rfl rfl ?_
  refine go_iload (d_L_law_1 160 rfl) rfl ?_
  refine go_iconst (x := (2 : Int32)) (d_L_law_1 162 rfl) (by decide) ?_
  refine go_iadd (d_L_law_1 163 rfl) ?_
  obtain ⟨g_8, h⟩ := gd_some h
  refine go_sld (d_L_law_1 164 rfl) g_8 ?_
  refine go_aload_n (d_L_law_1 165 rfl) rfl rfl ?_
  refine go_iload (d_L_law_1 166 rfl) rfl ?_
  refine go_iconst (x := (3 : Int32)) (d_L_law_1 168 rfl) (by decide) ?_
  refine go_iadd (d_L_law_1 169 rfl) ?_
  obtain ⟨g_9, h⟩ := gd_some h
  refine go_sld (d_L_law_1 170 rfl) g_9 ?_
  obtain ⟨r_10, o_11, h⟩ := bd_some h
  obtain ⟨z_12, h⟩ := nt_some h
  refine go_cV (As := [.int ((xs (x4 + (1 : Int32)).toNatClampNeg)), .int ((xs (x4 + (2 : Int32)).toNatClampNeg)), .int ((xs (x4 + (3 : Int32)).toNatClampNeg))]) (rest := []) (st2 := []) (c2 := c + 3) (s2 := s + 18) rfl rfl rfl rfl (Ca_M_row hl o_11)  (d_L_law_1 171 rfl) cw_L_89 ⟨w_635, w_636⟩ rfl (by decide) rfl ⟨by decide, by decide⟩ rfl (Nat.le_of_ble_eq_true rfl) ⟨(by omega : c + 3 ≤ 621509), (by omega : s + 18 ≤ 7231577)⟩ (fun _ => ?_) (fun q => absurd z_12 q)
  refine go_aload_n (d_L_law_2 174 rfl) rfl rfl ?_
  obtain ⟨r_13, o_14, h⟩ := bd_some h
  obtain ⟨z_15, h⟩ := nt_some h
  refine go_cV (As := []) (rest := []) (st2 := [.int (r_13.2.1)]) (c2 := c + 3) (s2 := s + 18) rfl rfl rfl rfl (Ca_M_thrown hl o_14)  (d_L_law_2 175 rfl) cw_L_90 ⟨w_631, w_632⟩ rfl (by decide) rfl ⟨by decide, by decide⟩ rfl (Nat.le_of_ble_eq_true rfl) ⟨(by omega : c + 3 ≤ 621509), (by omega : s + 18 ≤ 7231577)⟩ (fun _ => ?_) (fun q => absurd z_15 q)
  refine go_iload (d_L_law_2 178 rfl) rfl ?_
  rcases br_some h with ⟨c_16, h⟩ | ⟨c_16, h⟩
  · refine go_icmp_eq (tgt := 185) (d_L_law_2 180 rfl) (by decide) (fun _ => ?_) (fun q => absurd (of_decide_eq_true c_16) q)
    refine go_goto (tgt := 1228) (d_L_law_2 185 rfl) (by decide) ?_
    refine go_iinc (y := (x4 + 5)) (lv' := [(0, .ref b), (1, .ref (ad (0))), (2, .ref (ad (100))), (3, .ref (ad (119))), (4, .int ((x4 + 5))), (5, .int (r_4.2.1))]) (d_L_law_24 1228 rfl) rfl rfl (by decide) rfl ?_
    refine go_goto (tgt := 23) (d_L_law_24 1231 rfl) (by decide) ?_
    refine go_sub (lv' := [(0, .ref b), (1, .ref (ad (0))), (2, .ref (ad (100))), (3, .ref (ad (119))), (4, .int ((x4 + 5)))]) ⟨rfl, rfl, rfl, rfl, rfl, trivial⟩ ?_
    exact hrec ((x4 + 5)) (r_13.2.2.2) (c + 3) (s + 18) (by omega) h
  · refine go_icmp_eq (tgt := 185) (d_L_law_2 180 rfl) (by decide) (fun q => absurd q (of_decide_eq_false c_16)) (fun _ => ?_)
    refine go_iconst (x := (0 : Int32)) (d_L_law_2 183 rfl) (by decide) ?_
    cases h
def f_L_law_188 (L : Nat) (xs : Nat → Int32) (rec : Int32 → go_V → Option go_R) (x4 : Int32) (v : go_V) : Option go_R := gd (go_in (x4 + (1 : Int32)) L) (bd (f_L_top (xs (x4 + (1 : Int32)).toNatClampNeg) v) (fun r_2 => nt r_2 (gd (go_in (x4 + (1 : Int32)) L) (bd (f_M_top (xs (x4 + (1 : Int32)).toNatClampNeg) r_2.2.2.2) (fun r_6 => nt r_6 (bd (f_M_thrown r_6.2.2.2) (fun r_9 => nt r_9 (br (decide (r_9.2.1 = r_2.2.1)) (rec ((x4 + 5)) (r_9.2.2.2)) (none)))))))))
set_option maxHeartbeats 4000000 in
set_option maxRecDepth 100000 in
theorem b_L_law_188 {l : Launch} {G : go_G} {ad : Nat → Nat} {b L : Nat} {xs : Nat → Int32} (hl : l.stackTraces = false) (rec : Int32 → go_V → Option go_R) {r : go_R} {n : Nat} (hrec : ∀ (x4 : Int32) (v : go_V) (c s : Nat), c + 8 * n ≤ 621509 ∧ s + 48 * n ≤ 7231577 → rec x4 v = some r → Go l G M_L_law (go_ExL b L xs) (go_EnL b) ad v [(0, .ref b), (1, .ref (ad 0)), (2, .ref (ad 100)), (3, .ref (ad 119)), (4, .int x4)] 23 [] c s) (x4 : Int32) (v : go_V) (c s : Nat) (hb : c + 8 * (n + 1) ≤ 621509 ∧ s + 48 * (n + 1) ≤ 7231577) (h : f_L_law_188 L xs rec x4 v = some r) : Go l G M_L_law (go_ExL b L xs) (go_EnL b) ad v [(0, .ref b), (1, .ref (ad 0)), (2, .ref (ad 100)), (3, .ref (ad 119)), (4, .int x4)] 188 [] c s := by
  unfold f_L_law_188 at h
  refine go_aload_n (d_L_law_2 188 rfl) rfl rfl ?_
  refine go_aload_n (d_L_law_2 189 rfl) rfl rfl ?_
  refine go_iload (d_L_law_2 190 rfl) rfl ?_
  refine go_iconst (x := (1 : Int32)) (d_L_law_2 192 rfl) (by decide) ?_
  refine go_iadd (d_L_law_2 193 rfl) ?_
  obtain ⟨g_1, h⟩ := gd_some h
  refine go_sld (d_L_law_2 194 rfl) g_1 ?_
  obtain ⟨r_2, o_3, h⟩ := bd_some h
  obtain ⟨z_4, h⟩ := nt_some h
  refine go_cX (As := [.ref (ad (0)), .int ((xs (x4 + (1 : Int32)).toNatClampNeg))]) (rest := []) (st2 := [.int (r_2.2.1)]) (c2 := c + 2) (s2 := s + 12) rfl rfl rfl rfl (Ca_L_top hl o_3)  (d_L_law_2 195 rfl) cw_L_93 w_284 ⟨by decide, by decide⟩ rfl (Nat.le_of_ble_eq_true rfl) ⟨(by omega : c + 2 ≤ 621509), (by omega : s + 12 ≤ 7231577)⟩ (fun _ => ?_) (fun q => absurd z_4 q)
  refine go_istore (lv' := [(0, .ref b), (1, .ref (ad (0))), (2, .ref (ad (100))), (3, .ref (ad (119))), (4, .int x4), (5, .int (r_2.2.1))]) (d_L_law_2 198 rfl) (by decide) rfl ?_
  refine go_aload_n (d_L_law_2 200 rfl) rfl rfl ?_
  refine go_aload_n (d_L_law_2 201 rfl) rfl rfl ?_
  refine go_iload (d_L_law_2 202 rfl) rfl ?_
  refine go_iconst (x := (1 : Int32)) (d_L_law_2 204 rfl) (by decide) ?_
  refine go_iadd (d_L_law_2 205 rfl) ?_
  obtain ⟨g_5, h⟩ := gd_some h
  refine go_sld (d_L_law_2 206 rfl) g_5 ?_
  obtain ⟨r_6, o_7, h⟩ := bd_some h
  obtain ⟨z_8, h⟩ := nt_some h
  refine go_cV (As := [.int ((xs (x4 + (1 : Int32)).toNatClampNeg))]) (rest := []) (st2 := []) (c2 := c + 2) (s2 := s + 12) rfl rfl rfl rfl (Ca_M_top hl o_7)  (d_L_law_2 207 rfl) cw_L_96 ⟨w_646, w_647⟩ rfl (by decide) rfl ⟨by decide, by decide⟩ rfl (Nat.le_of_ble_eq_true rfl) ⟨(by omega : c + 2 ≤ 621509), (by omega : s + 12 ≤ 7231577)⟩ (fun _ => ?_) (fun q => absurd z_8 q)
  refine go_aload_n (d_L_law_2 210 rfl) rfl rfl ?_
  obtain ⟨r_9, o_10, h⟩ := bd_some h
  obtain ⟨z_11, h⟩ := nt_some h
  refine go_cV (As := []) (rest := []) (st2 := [.int (r_9.2.1)]) (c2 := c + 2) (s2 := s + 12) rfl rfl rfl rfl (Ca_M_thrown hl o_10)  (d_L_law_2 211 rfl) cw_L_90 ⟨w_631, w_632⟩ rfl (by decide) rfl ⟨by decide, by decide⟩ rfl (Nat.le_of_ble_eq_true rfl) ⟨(by omega : c + 2 ≤ 621509), (by omega : s + 12 ≤ 7231577)⟩ (fun _ => ?_) (fun q => absurd z_11 q)
  refine go_iload (d_L_law_2 214 rfl) rfl ?_
  rcases br_some h with ⟨c_12, h⟩ | ⟨c_12, h⟩
  · refine go_icmp_eq (tgt := 221) (d_L_law_2 216 rfl) (by decide) (fun _ => ?_) (fun q => absurd (of_decide_eq_true c_12) q)
    refine go_goto (tgt := 1228) (d_L_law_2 221 rfl) (by decide) ?_
    refine go_iinc (y := (x4 + 5)) (lv' := [(0, .ref b), (1, .ref (ad (0))), (2, .ref (ad (100))), (3, .ref (ad (119))), (4, .int ((x4 + 5))), (5, .int (r_2.2.1))]) (d_L_law_24 1228 rfl) rfl rfl (by decide) rfl ?_
    refine go_goto (tgt := 23) (d_L_law_24 1231 rfl) (by decide) ?_
    refine go_sub (lv' := [(0, .ref b), (1, .ref (ad (0))), (2, .ref (ad (100))), (3, .ref (ad (119))), (4, .int ((x4 + 5)))]) ⟨rfl, rfl, rfl, rfl, rfl, trivial⟩ ?_
    exact hrec ((x4 + 5)) (r_9.2.2.2) (c + 2) (s + 12) (by omega) h
  · refine go_icmp_eq (tgt := 221) (d_L_law_2 216 rfl) (by decide) (fun q => absurd q (of_decide_eq_false c_12)) (fun _ => ?_)
    refine go_iconst (x := (0 : Int32)) (d_L_law_2 219 rfl) (by decide) ?_
    cases h
def f_L_law_224 (L : Nat) (xs : Nat → Int32) (rec : Int32 → go_V → Option go_R) (x4 : Int32) (v : go_V) : Option go_R := gd (go_in (x4 + (1 : Int32)) L) (gd (go_in (x4 + (2 : Int32)) L) (gd (go_in (x4 + (3 : Int32)) L) (gd (go_in (x4 + (4 : Int32)) L) (bd (f_L_trigger (xs (x4 + (1 : Int32)).toNatClampNeg) (xs (x4 + (2 : Int32)).toNatClampNeg) (xs (x4 + (3 : Int32)).toNatClampNeg) (xs (x4 + (4 : Int32)).toNatClampNeg) v) (fun r_5 => nt r_5 (gd (go_in (x4 + (1 : Int32)) L) (gd (go_in (x4 + (2 : Int32)) L) (gd (go_in (x4 + (3 : Int32)) L) (gd (go_in (x4 + (4 : Int32)) L) (bd (f_M_trigger (xs (x4 + (1 : Int32)).toNatClampNeg) (xs (x4 + (2 : Int32)).toNatClampNeg) (xs (x4 + (3 : Int32)).toNatClampNeg) (xs (x4 + (4 : Int32)).toNatClampNeg) r_5.2.2.2) (fun r_12 => nt r_12 (bd (f_M_thrown r_12.2.2.2) (fun r_15 => nt r_15 (br (decide (r_15.2.1 = r_5.2.1)) (br (decide (r_5.2.1 = 0)) (gd (go_in (0 : Int32) 1) (br (decide ((go_lc (r_15.2.2.2 119 (0 : Int32).toNatClampNeg) r_12.2.1) = 0)) (rec ((x4 + 5)) (r_15.2.2.2)) (none))) (rec ((x4 + 5)) (r_15.2.2.2))) (none)))))))))))))))
set_option maxHeartbeats 4000000 in
set_option maxRecDepth 100000 in
theorem b_L_law_224 {l : Launch} {G : go_G} {ad : Nat → Nat} {b L : Nat} {xs : Nat → Int32} (hl : l.stackTraces = false) (rec : Int32 → go_V → Option go_R) {r : go_R} {n : Nat} (hrec : ∀ (x4 : Int32) (v : go_V) (c s : Nat), c + 8 * n ≤ 621509 ∧ s + 48 * n ≤ 7231577 → rec x4 v = some r → Go l G M_L_law (go_ExL b L xs) (go_EnL b) ad v [(0, .ref b), (1, .ref (ad 0)), (2, .ref (ad 100)), (3, .ref (ad 119)), (4, .int x4)] 23 [] c s) (x4 : Int32) (v : go_V) (c s : Nat) (hb : c + 8 * (n + 1) ≤ 621509 ∧ s + 48 * (n + 1) ≤ 7231577) (h : f_L_law_224 L xs rec x4 v = some r) : Go l G M_L_law (go_ExL b L xs) (go_EnL b) ad v [(0, .ref b), (1, .ref (ad 0)), (2, .ref (ad 100)), (3, .ref (ad 119)), (4, .int x4)] 224 [] c s := by
  unfold f_L_law_224 at h
  refine go_aload_n (d_L_law_2 224 rfl) rfl rfl ?_
  refine go_aload_n (d_L_law_3 225 rfl) rfl rfl ?_
  refine go_iload (d_L_law_3 226 rfl) rfl ?_
  refine go_iconst (x := (1 : Int32)) (d_L_law_3 228 rfl) (by decide) ?_
  refine go_iadd (d_L_law_3 229 rfl) ?_
  obtain ⟨g_1, h⟩ := gd_some h
  refine go_sld (d_L_law_3 230 rfl) g_1 ?_
  refine go_aload_n (d_L_law_3 231 rfl) rfl rfl ?_
  refine go_iload (d_L_law_3 232 rfl) rfl ?_
  refine go_iconst (x := (2 : Int32)) (d_L_law_3 234 rfl) (by decide) ?_
  refine go_iadd (d_L_law_3 235 rfl) ?_
  obtain ⟨g_2, h⟩ := gd_some h
  refine go_sld (d_L_law_3 236 rfl) g_2 ?_
  refine go_aload_n (d_L_law_3 237 rfl) rfl rfl ?_
  refine go_iload (d_L_law_3 238 rfl) rfl ?_
  refine go_iconst (x := (3 : Int32)) (d_L_law_3 240 rfl) (by decide) ?_
  refine go_iadd (d_L_law_3 241 rfl) ?_
  obtain ⟨g_3, h⟩ := gd_some h
  refine go_sld (d_L_law_3 242 rfl) g_3 ?_
  refine go_aload_n (d_L_law_3 243 rfl) rfl rfl ?_
  refine go_iload (d_L_law_3 244 rfl) rfl ?_
  refine go_iconst (x := (4 : Int32)) (d_L_law_3 246 rfl) (by decide) ?_
  refine go_iadd (d_L_law_3 247 rfl) ?_
  obtain ⟨g_4, h⟩ := gd_some h
  refine go_sld (d_L_law_3 248 rfl) g_4 ?_
  refine go_aload_n (d_L_law_3 249 rfl) rfl rfl ?_
  obtain ⟨r_5, o_6, h⟩ := bd_some h
  obtain ⟨z_7, h⟩ := nt_some h
  refine go_cX (As := [.ref (ad (0)), .int ((xs (x4 + (1 : Int32)).toNatClampNeg)), .int ((xs (x4 + (2 : Int32)).toNatClampNeg)), .int ((xs (x4 + (3 : Int32)).toNatClampNeg)), .int ((xs (x4 + (4 : Int32)).toNatClampNeg)), .ref (ad (119))]) (rest := []) (st2 := [.int (r_5.2.1)]) (c2 := c + 4) (s2 := s + 24) rfl rfl rfl rfl (Ca_L_trigger hl o_6)  (d_L_law_3 250 rfl) cw_L_97 w_312 ⟨by decide, by decide⟩ rfl (Nat.le_of_ble_eq_true rfl) ⟨(by omega : c + 4 ≤ 621509), (by omega : s + 24 ≤ 7231577)⟩ (fun _ => ?_) (fun q => absurd z_7 q)
  refine go_istore (lv' := [(0, .ref b), (1, .ref (ad (0))), (2, .ref (ad (100))), (3, .ref (ad (119))), (4, .int x4), (5, .int (r_5.2.1))]) (d_L_law_3 253 rfl) (by decide) rfl ?_
  refine go_aload_n (d_L_law_3 255 rfl) rfl rfl ?_
  refine go_aload_n (d_L_law_3 256 rfl) rfl rfl ?_
  refine go_iload (d_L_law_3 257 rfl) rfl ?_
  refine go_iconst (x := (1 : Int32)) (d_L_law_3 259 rfl) (by decide) ?_
  refine go_iadd (d_L_law_3 260 rfl) ?_
  obtain ⟨g_8, h⟩ := gd_some h
  refine go_sld (d_L_law_3 261 rfl) g_8 ?_
  refine go_aload_n (d_L_law_3 262 rfl) rfl rfl ?_
  refine go_iload (d_L_law_4 263 rfl) rfl ?_
  refine go_iconst (x := (2 : Int32)) (d_L_law_4 265 rfl) (by decide) ?_
  refine go_iadd (d_L_law_4 266 rfl) ?_
  obtain ⟨g_9, h⟩ := gd_some h
  refine go_sld (d_L_law_4 267 rfl) g_9 ?_
  refine go_aload_n (d_L_law_4 268 rfl) rfl rfl ?_
  refine go_iload (d_L_law_4 269 rfl) rfl ?_
  refine go_iconst (x := (3 : Int32)) (d_L_law_4 271 rfl) (by decide) ?_
  refine go_iadd (d_L_law_4 272 rfl) ?_
  obtain ⟨g_10, h⟩ := gd_some h
  refine go_sld (d_L_law_4 273 rfl) g_10 ?_
  refine go_aload_n (d_L_law_4 274 rfl) rfl rfl ?_
  refine go_iload (d_L_law_4 275 rfl) rfl ?_
  refine go_iconst (x := (4 : Int32)) (d_L_law_4 277 rfl) (by decide) ?_
  refine go_iadd (d_L_law_4 278 rfl) ?_
  obtain ⟨g_11, h⟩ := gd_some h
  refine go_sld (d_L_law_4 279 rfl) g_11 ?_
  obtain ⟨r_12, o_13, h⟩ := bd_some h
  obtain ⟨z_14, h⟩ := nt_some h
  refine go_cV (As := [.int ((xs (x4 + (1 : Int32)).toNatClampNeg)), .int ((xs (x4 + (2 : Int32)).toNatClampNeg)), .int ((xs (x4 + (3 : Int32)).toNatClampNeg)), .int ((xs (x4 + (4 : Int32)).toNatClampNeg))]) (rest := []) (st2 := [.int (r_12.2.1)]) (c2 := c + 4) (s2 := s + 24) rfl rfl rfl rfl (Ca_M_trigger hl o_13)  (d_L_law_4 280 rfl) cw_L_100 ⟨w_650, w_651⟩ rfl (by decide) rfl ⟨by decide, by decide⟩ rfl (Nat.le_of_ble_eq_true rfl) ⟨(by omega : c + 4 ≤ 621509), (by omega : s + 24 ≤ 7231577)⟩ (fun _ => ?_) (fun q => absurd z_14 q)
  refine go_istore (lv' := [(0, .ref b), (1, .ref (ad (0))), (2, .ref (ad (100))), (3, .ref (ad (119))), (4, .int x4), (5, .int (r_5.2.1)), (6, .int (r_12.2.1))]) (d_L_law_4 283 rfl) (by decide) rfl ?_
  refine go_aload_n (d_L_law_4 285 rfl) rfl rfl ?_
  obtain ⟨r_15, o_16, h⟩ := bd_some h
  obtain ⟨z_17, h⟩ := nt_some h
  refine go_cV (As := []) (rest := []) (st2 := [.int (r_15.2.1)]) (c2 := c + 4) (s2 := s + 24) rfl rfl rfl rfl (Ca_M_thrown hl o_16)  (d_L_law_4 286 rfl) cw_L_90 ⟨w_631, w_632⟩ rfl (by decide) rfl ⟨by decide, by decide⟩ rfl (Nat.le_of_ble_eq_true rfl) ⟨(by omega : c + 4 ≤ 621509), (by omega : s + 24 ≤ 7231577)⟩ (fun _ => ?_) (fun q => absurd z_17 q)
  refine go_iload (d_L_law_4 289 rfl) rfl ?_
  rcases br_some h with ⟨c_18, h⟩ | ⟨c_18, h⟩
  · refine go_icmp_eq (tgt := 296) (d_L_law_4 291 rfl) (by decide) (fun _ => ?_) (fun q => absurd (of_decide_eq_true c_18) q)
    refine go_iload (d_L_law_4 296 rfl) rfl ?_
    rcases br_some h with ⟨c_19, h⟩ | ⟨c_19, h⟩
    · refine go_if_ne (tgt := 313) (d_L_law_4 298 rfl) (by decide) (fun q => absurd (of_decide_eq_true c_19) q) (fun _ => ?_)
      refine go_aload_n (d_L_law_4 301 rfl) rfl rfl ?_
      refine go_iconst (x := (0 : Int32)) (d_L_law_4 302 rfl) (by decide) ?_
      obtain ⟨g_20, h⟩ := gd_some h
      refine go_lald (d_L_law_4 303 rfl) rfl g_20 ?_
      refine go_iload (d_L_law_4 304 rfl) rfl ?_
      refine go_i2l (d_L_law_4 306 rfl) ?_
      refine go_lcmp (d_L_law_4 307 rfl) ?_
      rcases br_some h with ⟨c_21, h⟩ | ⟨c_21, h⟩
      · refine go_if_eq (tgt := 313) (d_L_law_5 308 rfl) (by decide) (fun _ => ?_) (fun q => absurd (of_decide_eq_true c_21) q)
        refine go_goto (tgt := 1228) (d_L_law_5 313 rfl) (by decide) ?_
        refine go_iinc (y := (x4 + 5)) (lv' := [(0, .ref b), (1, .ref (ad (0))), (2, .ref (ad (100))), (3, .ref (ad (119))), (4, .int ((x4 + 5))), (5, .int (r_5.2.1)), (6, .int (r_12.2.1))]) (d_L_law_24 1228 rfl) rfl rfl (by decide) rfl ?_
        refine go_goto (tgt := 23) (d_L_law_24 1231 rfl) (by decide) ?_
        refine go_sub (lv' := [(0, .ref b), (1, .ref (ad (0))), (2, .ref (ad (100))), (3, .ref (ad (119))), (4, .int ((x4 + 5)))]) ⟨rfl, rfl, rfl, rfl, rfl, trivial⟩ ?_
        exact hrec ((x4 + 5)) (r_15.2.2.2) (c + 4) (s + 24) (by omega) h
      · refine go_if_eq (tgt := 313) (d_L_law_5 308 rfl) (by decide) (fun q => absurd q (of_decide_eq_false c_21)) (fun _ => ?_)
        refine go_iconst (x := (0 : Int32)) (d_L_law_5 311 rfl) (by decide) ?_
        cases h
    · refine go_if_ne (tgt := 313) (d_L_law_4 298 rfl) (by decide) (fun _ => ?_) (fun q => absurd q (of_decide_eq_false c_19))
      refine go_goto (tgt := 1228) (d_L_law_5 313 rfl) (by decide) ?_
      refine go_iinc (y := (x4 + 5)) (lv' := [(0, .ref b), (1, .ref (ad (0))), (2, .ref (ad (100))), (3, .ref (ad (119))), (4, .int ((x4 + 5))), (5, .int (r_5.2.1)), (6, .int (r_12.2.1))]) (d_L_law_24 1228 rfl) rfl rfl (by decide) rfl ?_
      refine go_goto (tgt := 23) (d_L_law_24 1231 rfl) (by decide) ?_
      refine go_sub (lv' := [(0, .ref b), (1, .ref (ad (0))), (2, .ref (ad (100))), (3, .ref (ad (119))), (4, .int ((x4 + 5)))]) ⟨rfl, rfl, rfl, rfl, rfl, trivial⟩ ?_
      exact hrec ((x4 + 5)) (r_15.2.2.2) (c + 4) (s + 24) (by omega) h
  · refine go_icmp_eq (tgt := 296) (d_L_law_4 291 rfl) (by decide) (fun q => absurd q (of_decide_eq_false c_18)) (fun _ => ?_)
    refine go_iconst (x := (0 : Int32)) (d_L_law_4 294 rfl) (by decide) ?_
    cases h
def f_L_law_316 (L : Nat) (xs : Nat → Int32) (rec : Int32 → go_V → Option go_R) (x4 : Int32) (v : go_V) : Option go_R := bd (f_L_begin v) (fun r_1 => nt r_1 (bd (f_M_begin r_1.2.2.2) (fun r_4 => nt r_4 (bd (f_M_thrown r_4.2.2.2) (fun r_7 => nt r_7 (br (decide (r_7.2.1 = r_1.2.1)) (br (decide (r_1.2.1 = 0)) (gd (go_in (0 : Int32) 1) (br (decide ((go_lc (r_7.2.2.2 119 (0 : Int32).toNatClampNeg) r_4.2.1) = 0)) (rec ((x4 + 5)) (r_7.2.2.2)) (none))) (rec ((x4 + 5)) (r_7.2.2.2))) (none)))))))
set_option maxHeartbeats 4000000 in
set_option maxRecDepth 100000 in
theorem b_L_law_316 {l : Launch} {G : go_G} {ad : Nat → Nat} {b L : Nat} {xs : Nat → Int32} (hl : l.stackTraces = false) (rec : Int32 → go_V → Option go_R) {r : go_R} {n : Nat} (hrec : ∀ (x4 : Int32) (v : go_V) (c s : Nat), c + 8 * n ≤ 621509 ∧ s + 48 * n ≤ 7231577 → rec x4 v = some r → Go l G M_L_law (go_ExL b L xs) (go_EnL b) ad v [(0, .ref b), (1, .ref (ad 0)), (2, .ref (ad 100)), (3, .ref (ad 119)), (4, .int x4)] 23 [] c s) (x4 : Int32) (v : go_V) (c s : Nat) (hb : c + 8 * (n + 1) ≤ 621509 ∧ s + 48 * (n + 1) ≤ 7231577) (h : f_L_law_316 L xs rec x4 v = some r) : Go l G M_L_law (go_ExL b L xs) (go_EnL b) ad v [(0, .ref b), (1, .ref (ad 0)), (2, .ref (ad 100)), (3, .ref (ad 119)), (4, .int x4)] 316 [] c s := by
  unfold f_L_law_316 at h
  refine go_aload_n (d_L_law_5 316 rfl) rfl rfl ?_
  refine go_aload_n (d_L_law_5 317 rfl) rfl rfl ?_
  obtain ⟨r_1, o_2, h⟩ := bd_some h
  obtain ⟨z_3, h⟩ := nt_some h
  refine go_cX (As := [.ref (ad (0)), .ref (ad (119))]) (rest := []) (st2 := [.int (r_1.2.1)]) (c2 := c + 1) (s2 := s + 6) rfl rfl rfl rfl (Ca_L_begin hl o_2)  (d_L_law_5 318 rfl) cw_L_101 w_350 ⟨by decide, by decide⟩ rfl (Nat.le_of_ble_eq_true rfl) ⟨(by omega : c + 1 ≤ 621509), (by omega : s + 6 ≤ 7231577)⟩ (fun _ => ?_) (fun q => absurd z_3 q)
  refine go_istore (lv' := [(0, .ref b), (1, .ref (ad (0))), (2, .ref (ad (100))), (3, .ref (ad (119))), (4, .int x4), (5, .int (r_1.2.1))]) (d_L_law_5 321 rfl) (by decide) rfl ?_
  refine go_aload_n (d_L_law_5 323 rfl) rfl rfl ?_
  obtain ⟨r_4, o_5, h⟩ := bd_some h
  obtain ⟨z_6, h⟩ := nt_some h
  refine go_cV (As := []) (rest := []) (st2 := [.int (r_4.2.1)]) (c2 := c + 1) (s2 := s + 6) rfl rfl rfl rfl (Ca_M_begin hl o_5)  (d_L_law_5 324 rfl) cw_L_104 ⟨w_655, w_656⟩ rfl (by decide) rfl ⟨by decide, by decide⟩ rfl (Nat.le_of_ble_eq_true rfl) ⟨(by omega : c + 1 ≤ 621509), (by omega : s + 6 ≤ 7231577)⟩ (fun _ => ?_) (fun q => absurd z_6 q)
  refine go_istore (lv' := [(0, .ref b), (1, .ref (ad (0))), (2, .ref (ad (100))), (3, .ref (ad (119))), (4, .int x4), (5, .int (r_1.2.1)), (6, .int (r_4.2.1))]) (d_L_law_5 327 rfl) (by decide) rfl ?_
  refine go_aload_n (d_L_law_5 329 rfl) rfl rfl ?_
  obtain ⟨r_7, o_8, h⟩ := bd_some h
  obtain ⟨z_9, h⟩ := nt_some h
  refine go_cV (As := []) (rest := []) (st2 := [.int (r_7.2.1)]) (c2 := c + 1) (s2 := s + 6) rfl rfl rfl rfl (Ca_M_thrown hl o_8)  (d_L_law_5 330 rfl) cw_L_90 ⟨w_631, w_632⟩ rfl (by decide) rfl ⟨by decide, by decide⟩ rfl (Nat.le_of_ble_eq_true rfl) ⟨(by omega : c + 1 ≤ 621509), (by omega : s + 6 ≤ 7231577)⟩ (fun _ => ?_) (fun q => absurd z_9 q)
  refine go_iload (d_L_law_5 333 rfl) rfl ?_
  rcases br_some h with ⟨c_10, h⟩ | ⟨c_10, h⟩
  · refine go_icmp_eq (tgt := 340) (d_L_law_5 335 rfl) (by decide) (fun _ => ?_) (fun q => absurd (of_decide_eq_true c_10) q)
    refine go_iload (d_L_law_5 340 rfl) rfl ?_
    rcases br_some h with ⟨c_11, h⟩ | ⟨c_11, h⟩
    · refine go_if_ne (tgt := 357) (d_L_law_5 342 rfl) (by decide) (fun q => absurd (of_decide_eq_true c_11) q) (fun _ => ?_)
      refine go_aload_n (d_L_law_5 345 rfl) rfl rfl ?_
      refine go_iconst (x := (0 : Int32)) (d_L_law_5 346 rfl) (by decide) ?_
      obtain ⟨g_12, h⟩ := gd_some h
      refine go_lald (d_L_law_5 347 rfl) rfl g_12 ?_
      refine go_iload (d_L_law_5 348 rfl) rfl ?_
      refine go_i2l (d_L_law_5 350 rfl) ?_
      refine go_lcmp (d_L_law_5 351 rfl) ?_
      rcases br_some h with ⟨c_13, h⟩ | ⟨c_13, h⟩
      · refine go_if_eq (tgt := 357) (d_L_law_5 352 rfl) (by decide) (fun _ => ?_) (fun q => absurd (of_decide_eq_true c_13) q)
        refine go_goto (tgt := 1228) (d_L_law_5 357 rfl) (by decide) ?_
        refine go_iinc (y := (x4 + 5)) (lv' := [(0, .ref b), (1, .ref (ad (0))), (2, .ref (ad (100))), (3, .ref (ad (119))), (4, .int ((x4 + 5))), (5, .int (r_1.2.1)), (6, .int (r_4.2.1))]) (d_L_law_24 1228 rfl) rfl rfl (by decide) rfl ?_
        refine go_goto (tgt := 23) (d_L_law_24 1231 rfl) (by decide) ?_
        refine go_sub (lv' := [(0, .ref b), (1, .ref (ad (0))), (2, .ref (ad (100))), (3, .ref (ad (119))), (4, .int ((x4 + 5)))]) ⟨rfl, rfl, rfl, rfl, rfl, trivial⟩ ?_
        exact hrec ((x4 + 5)) (r_7.2.2.2) (c + 1) (s + 6) (by omega) h
      · refine go_if_eq (tgt := 357) (d_L_law_5 352 rfl) (by decide) (fun q => absurd q (of_decide_eq_false c_13)) (fun _ => ?_)
        refine go_iconst (x := (0 : Int32)) (d_L_law_5 355 rfl) (by decide) ?_
        cases h
    · refine go_if_ne (tgt := 357) (d_L_law_5 342 rfl) (by decide) (fun _ => ?_) (fun q => absurd q (of_decide_eq_false c_11))
      refine go_goto (tgt := 1228) (d_L_law_5 357 rfl) (by decide) ?_
      refine go_iinc (y := (x4 + 5)) (lv' := [(0, .ref b), (1, .ref (ad (0))), (2, .ref (ad (100))), (3, .ref (ad (119))), (4, .int ((x4 + 5))), (5, .int (r_1.2.1)), (6, .int (r_4.2.1))]) (d_L_law_24 1228 rfl) rfl rfl (by decide) rfl ?_
      refine go_goto (tgt := 23) (d_L_law_24 1231 rfl) (by decide) ?_
      refine go_sub (lv' := [(0, .ref b), (1, .ref (ad (0))), (2, .ref (ad (100))), (3, .ref (ad (119))), (4, .int ((x4 + 5)))]) ⟨rfl, rfl, rfl, rfl, rfl, trivial⟩ ?_
      exact hrec ((x4 + 5)) (r_7.2.2.2) (c + 1) (s + 6) (by omega) h
  · refine go_icmp_eq (tgt := 340) (d_L_law_5 335 rfl) (by decide) (fun q => absurd q (of_decide_eq_false c_10)) (fun _ => ?_)
    refine go_iconst (x := (0 : Int32)) (d_L_law_5 338 rfl) (by decide) ?_
    cases h
def f_L_law_360 (L : Nat) (xs : Nat → Int32) (rec : Int32 → go_V → Option go_R) (x4 : Int32) (v : go_V) : Option go_R := gd (go_in (x4 + (1 : Int32)) L) (bd (f_L_close (xs (x4 + (1 : Int32)).toNatClampNeg) v) (fun r_2 => nt r_2 (gd (go_in (x4 + (1 : Int32)) L) (bd (f_M_close (xs (x4 + (1 : Int32)).toNatClampNeg) r_2.2.2.2) (fun r_6 => nt r_6 (bd (f_M_thrown r_6.2.2.2) (fun r_9 => nt r_9 (br (decide (r_9.2.1 = r_2.2.1)) (rec ((x4 + 5)) (r_9.2.2.2)) (none)))))))))
set_option maxHeartbeats 4000000 in
set_option maxRecDepth 100000 in
theorem b_L_law_360 {l : Launch} {G : go_G} {ad : Nat → Nat} {b L : Nat} {xs : Nat → Int32} (hl : l.stackTraces = false) (rec : Int32 → go_V → Option go_R) {r : go_R} {n : Nat} (hrec : ∀ (x4 : Int32) (v : go_V) (c s : Nat), c + 8 * n ≤ 621509 ∧ s + 48 * n ≤ 7231577 → rec x4 v = some r → Go l G M_L_law (go_ExL b L xs) (go_EnL b) ad v [(0, .ref b), (1, .ref (ad 0)), (2, .ref (ad 100)), (3, .ref (ad 119)), (4, .int x4)] 23 [] c s) (x4 : Int32) (v : go_V) (c s : Nat) (hb : c + 8 * (n + 1) ≤ 621509 ∧ s + 48 * (n + 1) ≤ 7231577) (h : f_L_law_360 L xs rec x4 v = some r) : Go l G M_L_law (go_ExL b L xs) (go_EnL b) ad v [(0, .ref b), (1, .ref (ad 0)), (2, .ref (ad 100)), (3, .ref (ad 119)), (4, .int x4)] 360 [] c s := by
  unfold f_L_law_360 at h
  refine go_aload_n (d_L_law_5 360 rfl) rfl rfl ?_
  refine go_aload_n (d_L_law_6 361 rfl) rfl rfl ?_
  refine go_iload (d_L_law_6 362 rfl) rfl ?_
  refine go_iconst (x := (1 : Int32)) (d_L_law_6 364 rfl) (by decide) ?_
  refine go_iadd (d_L_law_6 365 rfl) ?_
  obtain ⟨g_1, h⟩ := gd_some h
  refine go_sld (d_L_law_6 366 rfl) g_1 ?_
  obtain ⟨r_2, o_3, h⟩ := bd_some h
  obtain ⟨z_4, h⟩ := nt_some h
  refine go_cX (As := [.ref (ad (0)), .int ((xs (x4 + (1 : Int32)).toNatClampNeg))]) (rest := []) (st2 := [.int (r_2.2.1)]) (c2 := c + 2) (s2 := s + 12) rfl rfl rfl rfl (Ca_L_close hl o_3)  (d_L_law_6 367 rfl) cw_L_105 w_358 ⟨by decide, by decide⟩ rfl (Nat.le_of_ble_eq_true rfl) ⟨(by omega : c + 2 ≤ 621509), (by omega : s + 12 ≤ 7231577)⟩ (fun _ => ?_) (fun q => absurd z_4 q)
  refine go_istore (lv' := [(0, .ref b), (1, .ref (ad (0))), (2, .ref (ad (100))), (3, .ref (ad (119))), (4, .int x4), (5, .int (r_2.2.1))]) (d_L_law_6 370 rfl) (by decide) rfl ?_
  refine go_aload_n (d_L_law_6 372 rfl) rfl rfl ?_
  refine go_aload_n (d_L_law_6 373 rfl) rfl rfl ?_
  refine go_iload (d_L_law_6 374 rfl) rfl ?_
  refine go_iconst (x := (1 : Int32)) (d_L_law_6 376 rfl) (by decide) ?_
  refine go_iadd (d_L_law_6 377 rfl) ?_
  obtain ⟨g_5, h⟩ := gd_some h
  refine go_sld (d_L_law_6 378 rfl) g_5 ?_
  obtain ⟨r_6, o_7, h⟩ := bd_some h
  obtain ⟨z_8, h⟩ := nt_some h
  refine go_cV (As := [.int ((xs (x4 + (1 : Int32)).toNatClampNeg))]) (rest := []) (st2 := []) (c2 := c + 2) (s2 := s + 12) rfl rfl rfl rfl (Ca_M_close hl o_7)  (d_L_law_6 379 rfl) cw_L_107 ⟨w_659, w_660⟩ rfl (by decide) rfl ⟨by decide, by decide⟩ rfl (Nat.le_of_ble_eq_true rfl) ⟨(by omega : c + 2 ≤ 621509), (by omega : s + 12 ≤ 7231577)⟩ (fun _ => ?_) (fun q => absurd z_8 q)
  refine go_aload_n (d_L_law_6 382 rfl) rfl rfl ?_
  obtain ⟨r_9, o_10, h⟩ := bd_some h
  obtain ⟨z_11, h⟩ := nt_some h
  refine go_cV (As := []) (rest := []) (st2 := [.int (r_9.2.1)]) (c2 := c + 2) (s2 := s + 12) rfl rfl rfl rfl (Ca_M_thrown hl o_10)  (d_L_law_6 383 rfl) cw_L_90 ⟨w_631, w_632⟩ rfl (by decide) rfl ⟨by decide, by decide⟩ rfl (Nat.le_of_ble_eq_true rfl) ⟨(by omega : c + 2 ≤ 621509), (by omega : s + 12 ≤ 7231577)⟩ (fun _ => ?_) (fun q => absurd z_11 q)
  refine go_iload (d_L_law_6 386 rfl) rfl ?_
  rcases br_some h with ⟨c_12, h⟩ | ⟨c_12, h⟩
  · refine go_icmp_eq (tgt := 393) (d_L_law_6 388 rfl) (by decide) (fun _ => ?_) (fun q => absurd (of_decide_eq_true c_12) q)
    refine go_goto (tgt := 1228) (d_L_law_6 393 rfl) (by decide) ?_
    refine go_iinc (y := (x4 + 5)) (lv' := [(0, .ref b), (1, .ref (ad (0))), (2, .ref (ad (100))), (3, .ref (ad (119))), (4, .int ((x4 + 5))), (5, .int (r_2.2.1))]) (d_L_law_24 1228 rfl) rfl rfl (by decide) rfl ?_
    refine go_goto (tgt := 23) (d_L_law_24 1231 rfl) (by decide) ?_
    refine go_sub (lv' := [(0, .ref b), (1, .ref (ad (0))), (2, .ref (ad (100))), (3, .ref (ad (119))), (4, .int ((x4 + 5)))]) ⟨rfl, rfl, rfl, rfl, rfl, trivial⟩ ?_
    exact hrec ((x4 + 5)) (r_9.2.2.2) (c + 2) (s + 12) (by omega) h
  · refine go_icmp_eq (tgt := 393) (d_L_law_6 388 rfl) (by decide) (fun q => absurd q (of_decide_eq_false c_12)) (fun _ => ?_)
    refine go_iconst (x := (0 : Int32)) (d_L_law_6 391 rfl) (by decide) ?_
    cases h
def f_L_law_396 (L : Nat) (xs : Nat → Int32) (rec : Int32 → go_V → Option go_R) (x4 : Int32) (v : go_V) : Option go_R := gd (go_in (x4 + (1 : Int32)) L) (bd (f_L_tick (xs (x4 + (1 : Int32)).toNatClampNeg) v) (fun r_2 => nt r_2 (gd (go_in (x4 + (1 : Int32)) L) (bd (f_M_tick (xs (x4 + (1 : Int32)).toNatClampNeg) r_2.2.2.2) (fun r_6 => nt r_6 (bd (f_M_thrown r_6.2.2.2) (fun r_9 => nt r_9 (br (decide (r_9.2.1 = r_2.2.1)) (br (decide (r_2.2.1 = 0)) (gd (go_in (0 : Int32) 1) (br (decide ((go_lc (r_9.2.2.2 119 (0 : Int32).toNatClampNeg) r_6.2.1) = 0)) (rec ((x4 + 5)) (r_9.2.2.2)) (none))) (rec ((x4 + 5)) (r_9.2.2.2))) (none)))))))))
set_option maxHeartbeats 4000000 in
set_option maxRecDepth 100000 in
theorem b_L_law_396 {l : Launch} {G : go_G} {ad : Nat → Nat} {b L : Nat} {xs : Nat → Int32} (hl : l.stackTraces = false) (rec : Int32 → go_V → Option go_R) {r : go_R} {n : Nat} (hrec : ∀ (x4 : Int32) (v : go_V) (c s : Nat), c + 8 * n ≤ 621509 ∧ s + 48 * n ≤ 7231577 → rec x4 v = some r → Go l G M_L_law (go_ExL b L xs) (go_EnL b) ad v [(0, .ref b), (1, .ref (ad 0)), (2, .ref (ad 100)), (3, .ref (ad 119)), (4, .int x4)] 23 [] c s) (x4 : Int32) (v : go_V) (c s : Nat) (hb : c + 8 * (n + 1) ≤ 621509 ∧ s + 48 * (n + 1) ≤ 7231577) (h : f_L_law_396 L xs rec x4 v = some r) : Go l G M_L_law (go_ExL b L xs) (go_EnL b) ad v [(0, .ref b), (1, .ref (ad 0)), (2, .ref (ad 100)), (3, .ref (ad 119)), (4, .int x4)] 396 [] c s := by
  unfold f_L_law_396 at h
  refine go_aload_n (d_L_law_6 396 rfl) rfl rfl ?_
  refine go_aload_n (d_L_law_6 397 rfl) rfl rfl ?_
  refine go_iload (d_L_law_6 398 rfl) rfl ?_
  refine go_iconst (x := (1 : Int32)) (d_L_law_6 400 rfl) (by decide) ?_
  refine go_iadd (d_L_law_6 401 rfl) ?_
  obtain ⟨g_1, h⟩ := gd_some h
  refine go_sld (d_L_law_6 402 rfl) g_1 ?_
  refine go_aload_n (d_L_law_6 403 rfl) rfl rfl ?_
  obtain ⟨r_2, o_3, h⟩ := bd_some h
  obtain ⟨z_4, h⟩ := nt_some h
  refine go_cX (As := [.ref (ad (0)), .int ((xs (x4 + (1 : Int32)).toNatClampNeg)), .ref (ad (119))]) (rest := []) (st2 := [.int (r_2.2.1)]) (c2 := c + 2) (s2 := s + 12) rfl rfl rfl rfl (Ca_L_tick hl o_3)  (d_L_law_6 404 rfl) cw_L_108 w_378 ⟨by decide, by decide⟩ rfl (Nat.le_of_ble_eq_true rfl) ⟨(by omega : c + 2 ≤ 621509), (by omega : s + 12 ≤ 7231577)⟩ (fun _ => ?_) (fun q => absurd z_4 q)
  refine go_istore (lv' := [(0, .ref b), (1, .ref (ad (0))), (2, .ref (ad (100))), (3, .ref (ad (119))), (4, .int x4), (5, .int (r_2.2.1))]) (d_L_law_6 407 rfl) (by decide) rfl ?_
  refine go_aload_n (d_L_law_7 409 rfl) rfl rfl ?_
  refine go_aload_n (d_L_law_7 410 rfl) rfl rfl ?_
  refine go_iload (d_L_law_7 411 rfl) rfl ?_
  refine go_iconst (x := (1 : Int32)) (d_L_law_7 413 rfl) (by decide) ?_
  refine go_iadd (d_L_law_7 414 rfl) ?_
  obtain ⟨g_5, h⟩ := gd_some h
  refine go_sld (d_L_law_7 415 rfl) g_5 ?_
  obtain ⟨r_6, o_7, h⟩ := bd_some h
  obtain ⟨z_8, h⟩ := nt_some h
  refine go_cV (As := [.int ((xs (x4 + (1 : Int32)).toNatClampNeg))]) (rest := []) (st2 := [.int (r_6.2.1)]) (c2 := c + 2) (s2 := s + 12) rfl rfl rfl rfl (Ca_M_tick hl o_7)  (d_L_law_7 416 rfl) cw_L_111 ⟨w_679, w_680⟩ rfl (by decide) rfl ⟨by decide, by decide⟩ rfl (Nat.le_of_ble_eq_true rfl) ⟨(by omega : c + 2 ≤ 621509), (by omega : s + 12 ≤ 7231577)⟩ (fun _ => ?_) (fun q => absurd z_8 q)
  refine go_istore (lv' := [(0, .ref b), (1, .ref (ad (0))), (2, .ref (ad (100))), (3, .ref (ad (119))), (4, .int x4), (5, .int (r_2.2.1)), (6, .int (r_6.2.1))]) (d_L_law_7 419 rfl) (by decide) rfl ?_
  refine go_aload_n (d_L_law_7 421 rfl) rfl rfl ?_
  obtain ⟨r_9, o_10, h⟩ := bd_some h
  obtain ⟨z_11, h⟩ := nt_some h
  refine go_cV (As := []) (rest := []) (st2 := [.int (r_9.2.1)]) (c2 := c + 2) (s2 := s + 12) rfl rfl rfl rfl (Ca_M_thrown hl o_10)  (d_L_law_7 422 rfl) cw_L_90 ⟨w_631, w_632⟩ rfl (by decide) rfl ⟨by decide, by decide⟩ rfl (Nat.le_of_ble_eq_true rfl) ⟨(by omega : c + 2 ≤ 621509), (by omega : s + 12 ≤ 7231577)⟩ (fun _ => ?_) (fun q => absurd z_11 q)
  refine go_iload (d_L_law_7 425 rfl) rfl ?_
  rcases br_some h with ⟨c_12, h⟩ | ⟨c_12, h⟩
  · refine go_icmp_eq (tgt := 432) (d_L_law_7 427 rfl) (by decide) (fun _ => ?_) (fun q => absurd (of_decide_eq_true c_12) q)
    refine go_iload (d_L_law_7 432 rfl) rfl ?_
    rcases br_some h with ⟨c_13, h⟩ | ⟨c_13, h⟩
    · refine go_if_ne (tgt := 449) (d_L_law_7 434 rfl) (by decide) (fun q => absurd (of_decide_eq_true c_13) q) (fun _ => ?_)
      refine go_aload_n (d_L_law_7 437 rfl) rfl rfl ?_
      refine go_iconst (x := (0 : Int32)) (d_L_law_7 438 rfl) (by decide) ?_
      obtain ⟨g_14, h⟩ := gd_some h
      refine go_lald (d_L_law_7 439 rfl) rfl g_14 ?_
      refine go_iload (d_L_law_7 440 rfl) rfl ?_
      refine go_i2l (d_L_law_7 442 rfl) ?_
      refine go_lcmp (d_L_law_7 443 rfl) ?_
      rcases br_some h with ⟨c_15, h⟩ | ⟨c_15, h⟩
      · refine go_if_eq (tgt := 449) (d_L_law_7 444 rfl) (by decide) (fun _ => ?_) (fun q => absurd (of_decide_eq_true c_15) q)
        refine go_goto (tgt := 1228) (d_L_law_7 449 rfl) (by decide) ?_
        refine go_iinc (y := (x4 + 5)) (lv' := [(0, .ref b), (1, .ref (ad (0))), (2, .ref (ad (100))), (3, .ref (ad (119))), (4, .int ((x4 + 5))), (5, .int (r_2.2.1)), (6, .int (r_6.2.1))]) (d_L_law_24 1228 rfl) rfl rfl (by decide) rfl ?_
        refine go_goto (tgt := 23) (d_L_law_24 1231 rfl) (by decide) ?_
        refine go_sub (lv' := [(0, .ref b), (1, .ref (ad (0))), (2, .ref (ad (100))), (3, .ref (ad (119))), (4, .int ((x4 + 5)))]) ⟨rfl, rfl, rfl, rfl, rfl, trivial⟩ ?_
        exact hrec ((x4 + 5)) (r_9.2.2.2) (c + 2) (s + 12) (by omega) h
      · refine go_if_eq (tgt := 449) (d_L_law_7 444 rfl) (by decide) (fun q => absurd q (of_decide_eq_false c_15)) (fun _ => ?_)
        refine go_iconst (x := (0 : Int32)) (d_L_law_7 447 rfl) (by decide) ?_
        cases h
    · refine go_if_ne (tgt := 449) (d_L_law_7 434 rfl) (by decide) (fun _ => ?_) (fun q => absurd q (of_decide_eq_false c_13))
      refine go_goto (tgt := 1228) (d_L_law_7 449 rfl) (by decide) ?_
      refine go_iinc (y := (x4 + 5)) (lv' := [(0, .ref b), (1, .ref (ad (0))), (2, .ref (ad (100))), (3, .ref (ad (119))), (4, .int ((x4 + 5))), (5, .int (r_2.2.1)), (6, .int (r_6.2.1))]) (d_L_law_24 1228 rfl) rfl rfl (by decide) rfl ?_
      refine go_goto (tgt := 23) (d_L_law_24 1231 rfl) (by decide) ?_
      refine go_sub (lv' := [(0, .ref b), (1, .ref (ad (0))), (2, .ref (ad (100))), (3, .ref (ad (119))), (4, .int ((x4 + 5)))]) ⟨rfl, rfl, rfl, rfl, rfl, trivial⟩ ?_
      exact hrec ((x4 + 5)) (r_9.2.2.2) (c + 2) (s + 12) (by omega) h
  · refine go_icmp_eq (tgt := 432) (d_L_law_7 427 rfl) (by decide) (fun q => absurd q (of_decide_eq_false c_12)) (fun _ => ?_)
    refine go_iconst (x := (0 : Int32)) (d_L_law_7 430 rfl) (by decide) ?_
    cases h
def f_L_law_452 (L : Nat) (xs : Nat → Int32) (rec : Int32 → go_V → Option go_R) (x4 : Int32) (v : go_V) : Option go_R := gd (go_in (x4 + (1 : Int32)) L) (gd (go_in (x4 + (2 : Int32)) L) (bd (f_L_word (xs (x4 + (1 : Int32)).toNatClampNeg) (xs (x4 + (2 : Int32)).toNatClampNeg) v) (fun r_3 => nt r_3 (gd (go_in (x4 + (1 : Int32)) L) (gd (go_in (x4 + (2 : Int32)) L) (bd (f_M_word (xs (x4 + (1 : Int32)).toNatClampNeg) (xs (x4 + (2 : Int32)).toNatClampNeg) r_3.2.2.2) (fun r_8 => nt r_8 (bd (f_M_thrown r_8.2.2.2) (fun r_11 => nt r_11 (br (decide (r_11.2.1 = r_3.2.1)) (br (decide (r_3.2.1 = 0)) (gd (go_in (0 : Int32) 1) (br (decide ((go_lc (r_11.2.2.2 119 (0 : Int32).toNatClampNeg) r_8.2.1) = 0)) (rec ((x4 + 5)) (r_11.2.2.2)) (none))) (rec ((x4 + 5)) (r_11.2.2.2))) (none)))))))))))
set_option maxHeartbeats 4000000 in
set_option maxRecDepth 100000 in
theorem b_L_law_452 {l : Launch} {G : go_G} {ad : Nat → Nat} {b L : Nat} {xs : Nat → Int32} (hl : l.stackTraces = false) (rec : Int32 → go_V → Option go_R) {r : go_R} {n : Nat} (hrec : ∀ (x4 : Int32) (v : go_V) (c s : Nat), c + 8 * n ≤ 621509 ∧ s + 48 * n ≤ 7231577 → rec x4 v = some r → Go l G M_L_law (go_ExL b L xs) (go_EnL b) ad v [(0, .ref b), (1, .ref (ad 0)), (2, .ref (ad 100)), (3, .ref (ad 119)), (4, .int x4)] 23 [] c s) (x4 : Int32) (v : go_V) (c s : Nat) (hb : c + 8 * (n + 1) ≤ 621509 ∧ s + 48 * (n + 1) ≤ 7231577) (h : f_L_law_452 L xs rec x4 v = some r) : Go l G M_L_law (go_ExL b L xs) (go_EnL b) ad v [(0, .ref b), (1, .ref (ad 0)), (2, .ref (ad 100)), (3, .ref (ad 119)), (4, .int x4)] 452 [] c s := by
  unfold f_L_law_452 at h
  refine go_aload_n (d_L_law_7 452 rfl) rfl rfl ?_
  refine go_aload_n (d_L_law_7 453 rfl) rfl rfl ?_
  refine go_iload (d_L_law_7 454 rfl) rfl ?_
  refine go_iconst (x := (1 : Int32)) (d_L_law_7 456 rfl) (by decide) ?_
  refine go_iadd (d_L_law_8 457 rfl) ?_
  obtain ⟨g_1, h⟩ := gd_some h
  refine go_sld (d_L_law_8 458 rfl) g_1 ?_
  refine go_aload_n (d_L_law_8 459 rfl) rfl rfl ?_
  refine go_iload (d_L_law_8 460 rfl) rfl ?_
  refine go_iconst (x := (2 : Int32)) (d_L_law_8 462 rfl) (by decide) ?_
  refine go_iadd (d_L_law_8 463 rfl) ?_
  obtain ⟨g_2, h⟩ := gd_some h
  refine go_sld (d_L_law_8 464 rfl) g_2 ?_
  refine go_aload_n (d_L_law_8 465 rfl) rfl rfl ?_
  obtain ⟨r_3, o_4, h⟩ := bd_some h
  obtain ⟨z_5, h⟩ := nt_some h
  refine go_cX (As := [.ref (ad (0)), .int ((xs (x4 + (1 : Int32)).toNatClampNeg)), .int ((xs (x4 + (2 : Int32)).toNatClampNeg)), .ref (ad (119))]) (rest := []) (st2 := [.int (r_3.2.1)]) (c2 := c + 3) (s2 := s + 18) rfl rfl rfl rfl (Ca_L_word hl o_4)  (d_L_law_8 466 rfl) cw_L_112 w_401 ⟨by decide, by decide⟩ rfl (Nat.le_of_ble_eq_true rfl) ⟨(by omega : c + 3 ≤ 621509), (by omega : s + 18 ≤ 7231577)⟩ (fun _ => ?_) (fun q => absurd z_5 q)
  refine go_istore (lv' := [(0, .ref b), (1, .ref (ad (0))), (2, .ref (ad (100))), (3, .ref (ad (119))), (4, .int x4), (5, .int (r_3.2.1))]) (d_L_law_8 469 rfl) (by decide) rfl ?_
  refine go_aload_n (d_L_law_8 471 rfl) rfl rfl ?_
  refine go_aload_n (d_L_law_8 472 rfl) rfl rfl ?_
  refine go_iload (d_L_law_8 473 rfl) rfl ?_
  refine go_iconst (x := (1 : Int32)) (d_L_law_8 475 rfl) (by decide) ?_
  refine go_iadd (d_L_law_8 476 rfl) ?_
  obtain ⟨g_6, h⟩ := gd_some h
  refine go_sld (d_L_law_8 477 rfl) g_6 ?_
  refine go_aload_n (d_L_law_8 478 rfl) rfl rfl ?_
  refine go_iload (d_L_law_8 479 rfl) rfl ?_
  refine go_iconst (x := (2 : Int32)) (d_L_law_8 481 rfl) (by decide) ?_
  refine go_iadd (d_L_law_8 482 rfl) ?_
  obtain ⟨g_7, h⟩ := gd_some h
  refine go_sld (d_L_law_8 483 rfl) g_7 ?_
  obtain ⟨r_8, o_9, h⟩ := bd_some h
  obtain ⟨z_10, h⟩ := nt_some h
  refine go_cV (As := [.int ((xs (x4 + (1 : Int32)).toNatClampNeg)), .int ((xs (x4 + (2 : Int32)).toNatClampNeg))]) (rest := []) (st2 := [.int (r_8.2.1)]) (c2 := c + 3) (s2 := s + 18) rfl rfl rfl rfl (Ca_M_word hl o_9)  (d_L_law_8 484 rfl) cw_L_115 ⟨w_692, w_693⟩ rfl (by decide) rfl ⟨by decide, by decide⟩ rfl (Nat.le_of_ble_eq_true rfl) ⟨(by omega : c + 3 ≤ 621509), (by omega : s + 18 ≤ 7231577)⟩ (fun _ => ?_) (fun q => absurd z_10 q)
  refine go_istore (lv' := [(0, .ref b), (1, .ref (ad (0))), (2, .ref (ad (100))), (3, .ref (ad (119))), (4, .int x4), (5, .int (r_3.2.1)), (6, .int (r_8.2.1))]) (d_L_law_8 487 rfl) (by decide) rfl ?_
  refine go_aload_n (d_L_law_8 489 rfl) rfl rfl ?_
  obtain ⟨r_11, o_12, h⟩ := bd_some h
  obtain ⟨z_13, h⟩ := nt_some h
  refine go_cV (As := []) (rest := []) (st2 := [.int (r_11.2.1)]) (c2 := c + 3) (s2 := s + 18) rfl rfl rfl rfl (Ca_M_thrown hl o_12)  (d_L_law_8 490 rfl) cw_L_90 ⟨w_631, w_632⟩ rfl (by decide) rfl ⟨by decide, by decide⟩ rfl (Nat.le_of_ble_eq_true rfl) ⟨(by omega : c + 3 ≤ 621509), (by omega : s + 18 ≤ 7231577)⟩ (fun _ => ?_) (fun q => absurd z_13 q)
  refine go_iload (d_L_law_8 493 rfl) rfl ?_
  rcases br_some h with ⟨c_14, h⟩ | ⟨c_14, h⟩
  · refine go_icmp_eq (tgt := 500) (d_L_law_8 495 rfl) (by decide) (fun _ => ?_) (fun q => absurd (of_decide_eq_true c_14) q)
    refine go_iload (d_L_law_8 500 rfl) rfl ?_
    rcases br_some h with ⟨c_15, h⟩ | ⟨c_15, h⟩
    · refine go_if_ne (tgt := 517) (d_L_law_9 502 rfl) (by decide) (fun q => absurd (of_decide_eq_true c_15) q) (fun _ => ?_)
      refine go_aload_n (d_L_law_9 505 rfl) rfl rfl ?_
      refine go_iconst (x := (0 : Int32)) (d_L_law_9 506 rfl) (by decide) ?_
      obtain ⟨g_16, h⟩ := gd_some h
      refine go_lald (d_L_law_9 507 rfl) rfl g_16 ?_
      refine go_iload (d_L_law_9 508 rfl) rfl ?_
      refine go_i2l (d_L_law_9 510 rfl) ?_
      refine go_lcmp (d_L_law_9 511 rfl) ?_
      rcases br_some h with ⟨c_17, h⟩ | ⟨c_17, h⟩
      · refine go_if_eq (tgt := 517) (d_L_law_9 512 rfl) (by decide) (fun _ => ?_) (fun q => absurd (of_decide_eq_true c_17) q)
        refine go_goto (tgt := 1228) (d_L_law_9 517 rfl) (by decide) ?_
        refine go_iinc (y := (x4 + 5)) (lv' := [(0, .ref b), (1, .ref (ad (0))), (2, .ref (ad (100))), (3, .ref (ad (119))), (4, .int ((x4 + 5))), (5, .int (r_3.2.1)), (6, .int (r_8.2.1))]) (d_L_law_24 1228 rfl) rfl rfl (by decide) rfl ?_
        refine go_goto (tgt := 23) (d_L_law_24 1231 rfl) (by decide) ?_
        refine go_sub (lv' := [(0, .ref b), (1, .ref (ad (0))), (2, .ref (ad (100))), (3, .ref (ad (119))), (4, .int ((x4 + 5)))]) ⟨rfl, rfl, rfl, rfl, rfl, trivial⟩ ?_
        exact hrec ((x4 + 5)) (r_11.2.2.2) (c + 3) (s + 18) (by omega) h
      · refine go_if_eq (tgt := 517) (d_L_law_9 512 rfl) (by decide) (fun q => absurd q (of_decide_eq_false c_17)) (fun _ => ?_)
        refine go_iconst (x := (0 : Int32)) (d_L_law_9 515 rfl) (by decide) ?_
        cases h
    · refine go_if_ne (tgt := 517) (d_L_law_9 502 rfl) (by decide) (fun _ => ?_) (fun q => absurd q (of_decide_eq_false c_15))
      refine go_goto (tgt := 1228) (d_L_law_9 517 rfl) (by decide) ?_
      refine go_iinc (y := (x4 + 5)) (lv' := [(0, .ref b), (1, .ref (ad (0))), (2, .ref (ad (100))), (3, .ref (ad (119))), (4, .int ((x4 + 5))), (5, .int (r_3.2.1)), (6, .int (r_8.2.1))]) (d_L_law_24 1228 rfl) rfl rfl (by decide) rfl ?_
      refine go_goto (tgt := 23) (d_L_law_24 1231 rfl) (by decide) ?_
      refine go_sub (lv' := [(0, .ref b), (1, .ref (ad (0))), (2, .ref (ad (100))), (3, .ref (ad (119))), (4, .int ((x4 + 5)))]) ⟨rfl, rfl, rfl, rfl, rfl, trivial⟩ ?_
      exact hrec ((x4 + 5)) (r_11.2.2.2) (c + 3) (s + 18) (by omega) h
  · refine go_icmp_eq (tgt := 500) (d_L_law_8 495 rfl) (by decide) (fun q => absurd q (of_decide_eq_false c_14)) (fun _ => ?_)
    refine go_iconst (x := (0 : Int32)) (d_L_law_8 498 rfl) (by decide) ?_
    cases h
def f_L_law_520 (L : Nat) (xs : Nat → Int32) (rec : Int32 → go_V → Option go_R) (x4 : Int32) (v : go_V) : Option go_R := gd (go_in (x4 + (1 : Int32)) L) (gd (go_in (x4 + (2 : Int32)) L) (bd (f_L_hurt (xs (x4 + (1 : Int32)).toNatClampNeg) (xs (x4 + (2 : Int32)).toNatClampNeg) v) (fun r_3 => nt r_3 (gd (go_in (x4 + (1 : Int32)) L) (gd (go_in (x4 + (2 : Int32)) L) (bd (f_M_hurt (xs (x4 + (1 : Int32)).toNatClampNeg) (xs (x4 + (2 : Int32)).toNatClampNeg) r_3.2.2.2) (fun r_8 => nt r_8 (bd (f_M_thrown r_8.2.2.2) (fun r_11 => nt r_11 (br (decide (r_11.2.1 = r_3.2.1)) (br (decide (r_3.2.1 = 0)) (gd (go_in (0 : Int32) 1) (br (decide ((go_lc (r_11.2.2.2 119 (0 : Int32).toNatClampNeg) r_8.2.1) = 0)) (rec ((x4 + 5)) (r_11.2.2.2)) (none))) (rec ((x4 + 5)) (r_11.2.2.2))) (none)))))))))))
set_option maxHeartbeats 4000000 in
set_option maxRecDepth 100000 in
theorem b_L_law_520 {l : Launch} {G : go_G} {ad : Nat → Nat} {b L : Nat} {xs : Nat → Int32} (hl : l.stackTraces = false) (rec : Int32 → go_V → Option go_R) {r : go_R} {n : Nat} (hrec : ∀ (x4 : Int32) (v : go_V) (c s : Nat), c + 8 * n ≤ 621509 ∧ s + 48 * n ≤ 7231577 → rec x4 v = some r → Go l G M_L_law (go_ExL b L xs) (go_EnL b) ad v [(0, .ref b), (1, .ref (ad 0)), (2, .ref (ad 100)), (3, .ref (ad 119)), (4, .int x4)] 23 [] c s) (x4 : Int32) (v : go_V) (c s : Nat) (hb : c + 8 * (n + 1) ≤ 621509 ∧ s + 48 * (n + 1) ≤ 7231577) (h : f_L_law_520 L xs rec x4 v = some r) : Go l G M_L_law (go_ExL b L xs) (go_EnL b) ad v [(0, .ref b), (1, .ref (ad 0)), (2, .ref (ad 100)), (3, .ref (ad 119)), (4, .int x4)] 520 [] c s := by
  unfold f_L_law_520 at h
  refine go_aload_n (d_L_law_9 520 rfl) rfl rfl ?_
  refine go_aload_n (d_L_law_9 521 rfl) rfl rfl ?_
  refine go_iload (d_L_law_9 522 rfl) rfl ?_
  refine go_iconst (x := (1 : Int32)) (d_L_law_9 524 rfl) (by decide) ?_
  refine go_iadd (d_L_law_9 525 rfl) ?_
  obtain ⟨g_1, h⟩ := gd_some h
  refine go_sld (d_L_law_9 526 rfl) g_1 ?_
  refine go_aload_n (d_L_law_9 527 rfl) rfl rfl ?_
  refine go_iload (d_L_law_9 528 rfl) rfl ?_
  refine go_iconst (x := (2 : Int32)) (d_L_law_9 530 rfl) (by decide) ?_
  refine go_iadd (d_L_law_9 531 rfl) ?_
  obtain ⟨g_2, h⟩ := gd_some h
  refine go_sld (d_L_law_9 532 rfl) g_2 ?_
  refine go_aload_n (d_L_law_9 533 rfl) rfl rfl ?_
  obtain ⟨r_3, o_4, h⟩ := bd_some h
  obtain ⟨z_5, h⟩ := nt_some h
  refine go_cX (As := [.ref (ad (0)), .int ((xs (x4 + (1 : Int32)).toNatClampNeg)), .int ((xs (x4 + (2 : Int32)).toNatClampNeg)), .ref (ad (119))]) (rest := []) (st2 := [.int (r_3.2.1)]) (c2 := c + 3) (s2 := s + 18) rfl rfl rfl rfl (Ca_L_hurt hl o_4)  (d_L_law_9 534 rfl) cw_L_116 w_420 ⟨by decide, by decide⟩ rfl (Nat.le_of_ble_eq_true rfl) ⟨(by omega : c + 3 ≤ 621509), (by omega : s + 18 ≤ 7231577)⟩ (fun _ => ?_) (fun q => absurd z_5 q)
  refine go_istore (lv' := [(0, .ref b), (1, .ref (ad (0))), (2, .ref (ad (100))), (3, .ref (ad (119))), (4, .int x4), (5, .int (r_3.2.1))]) (d_L_law_9 537 rfl) (by decide) rfl ?_
  refine go_aload_n (d_L_law_9 539 rfl) rfl rfl ?_
  refine go_aload_n (d_L_law_9 540 rfl) rfl rfl ?_
  refine go_iload (d_L_law_9 541 rfl) rfl ?_
  refine go_iconst (x := (1 : Int32)) (d_L_law_9 543 rfl) (by decide) ?_
  refine go_iadd (d_L_law_9 544 rfl) ?_
  obtain ⟨g_6, h⟩ := gd_some h
  refine go_sld (d_L_law_10 545 rfl) g_6 ?_
  refine go_aload_n (d_L_law_10 546 rfl) rfl rfl ?_
  refine go_iload (d_L_law_10 547 rfl) rfl ?_
  refine go_iconst (x := (2 : Int32)) (d_L_law_10 549 rfl) (by decide) ?_
  refine go_iadd (d_L_law_10 550 rfl) ?_
  obtain ⟨g_7, h⟩ := gd_some h
  refine go_sld (d_L_law_10 551 rfl) g_7 ?_
  obtain ⟨r_8, o_9, h⟩ := bd_some h
  obtain ⟨z_10, h⟩ := nt_some h
  refine go_cV (As := [.int ((xs (x4 + (1 : Int32)).toNatClampNeg)), .int ((xs (x4 + (2 : Int32)).toNatClampNeg))]) (rest := []) (st2 := [.int (r_8.2.1)]) (c2 := c + 3) (s2 := s + 18) rfl rfl rfl rfl (Ca_M_hurt hl o_9)  (d_L_law_10 552 rfl) cw_L_118 ⟨w_696, w_697⟩ rfl (by decide) rfl ⟨by decide, by decide⟩ rfl (Nat.le_of_ble_eq_true rfl) ⟨(by omega : c + 3 ≤ 621509), (by omega : s + 18 ≤ 7231577)⟩ (fun _ => ?_) (fun q => absurd z_10 q)
  refine go_istore (lv' := [(0, .ref b), (1, .ref (ad (0))), (2, .ref (ad (100))), (3, .ref (ad (119))), (4, .int x4), (5, .int (r_3.2.1)), (6, .int (r_8.2.1))]) (d_L_law_10 555 rfl) (by decide) rfl ?_
  refine go_aload_n (d_L_law_10 557 rfl) rfl rfl ?_
  obtain ⟨r_11, o_12, h⟩ := bd_some h
  obtain ⟨z_13, h⟩ := nt_some h
  refine go_cV (As := []) (rest := []) (st2 := [.int (r_11.2.1)]) (c2 := c + 3) (s2 := s + 18) rfl rfl rfl rfl (Ca_M_thrown hl o_12)  (d_L_law_10 558 rfl) cw_L_90 ⟨w_631, w_632⟩ rfl (by decide) rfl ⟨by decide, by decide⟩ rfl (Nat.le_of_ble_eq_true rfl) ⟨(by omega : c + 3 ≤ 621509), (by omega : s + 18 ≤ 7231577)⟩ (fun _ => ?_) (fun q => absurd z_13 q)
  refine go_iload (d_L_law_10 561 rfl) rfl ?_
  rcases br_some h with ⟨c_14, h⟩ | ⟨c_14, h⟩
  · refine go_icmp_eq (tgt := 568) (d_L_law_10 563 rfl) (by decide) (fun _ => ?_) (fun q => absurd (of_decide_eq_true c_14) q)
    refine go_iload (d_L_law_10 568 rfl) rfl ?_
    rcases br_some h with ⟨c_15, h⟩ | ⟨c_15, h⟩
    · refine go_if_ne (tgt := 585) (d_L_law_10 570 rfl) (by decide) (fun q => absurd (of_decide_eq_true c_15) q) (fun _ => ?_)
      refine go_aload_n (d_L_law_10 573 rfl) rfl rfl ?_
      refine go_iconst (x := (0 : Int32)) (d_L_law_10 574 rfl) (by decide) ?_
      obtain ⟨g_16, h⟩ := gd_some h
      refine go_lald (d_L_law_10 575 rfl) rfl g_16 ?_
      refine go_iload (d_L_law_10 576 rfl) rfl ?_
      refine go_i2l (d_L_law_10 578 rfl) ?_
      refine go_lcmp (d_L_law_10 579 rfl) ?_
      rcases br_some h with ⟨c_17, h⟩ | ⟨c_17, h⟩
      · refine go_if_eq (tgt := 585) (d_L_law_10 580 rfl) (by decide) (fun _ => ?_) (fun q => absurd (of_decide_eq_true c_17) q)
        refine go_goto (tgt := 1228) (d_L_law_10 585 rfl) (by decide) ?_
        refine go_iinc (y := (x4 + 5)) (lv' := [(0, .ref b), (1, .ref (ad (0))), (2, .ref (ad (100))), (3, .ref (ad (119))), (4, .int ((x4 + 5))), (5, .int (r_3.2.1)), (6, .int (r_8.2.1))]) (d_L_law_24 1228 rfl) rfl rfl (by decide) rfl ?_
        refine go_goto (tgt := 23) (d_L_law_24 1231 rfl) (by decide) ?_
        refine go_sub (lv' := [(0, .ref b), (1, .ref (ad (0))), (2, .ref (ad (100))), (3, .ref (ad (119))), (4, .int ((x4 + 5)))]) ⟨rfl, rfl, rfl, rfl, rfl, trivial⟩ ?_
        exact hrec ((x4 + 5)) (r_11.2.2.2) (c + 3) (s + 18) (by omega) h
      · refine go_if_eq (tgt := 585) (d_L_law_10 580 rfl) (by decide) (fun q => absurd q (of_decide_eq_false c_17)) (fun _ => ?_)
        refine go_iconst (x := (0 : Int32)) (d_L_law_10 583 rfl) (by decide) ?_
        cases h
    · refine go_if_ne (tgt := 585) (d_L_law_10 570 rfl) (by decide) (fun _ => ?_) (fun q => absurd q (of_decide_eq_false c_15))
      refine go_goto (tgt := 1228) (d_L_law_10 585 rfl) (by decide) ?_
      refine go_iinc (y := (x4 + 5)) (lv' := [(0, .ref b), (1, .ref (ad (0))), (2, .ref (ad (100))), (3, .ref (ad (119))), (4, .int ((x4 + 5))), (5, .int (r_3.2.1)), (6, .int (r_8.2.1))]) (d_L_law_24 1228 rfl) rfl rfl (by decide) rfl ?_
      refine go_goto (tgt := 23) (d_L_law_24 1231 rfl) (by decide) ?_
      refine go_sub (lv' := [(0, .ref b), (1, .ref (ad (0))), (2, .ref (ad (100))), (3, .ref (ad (119))), (4, .int ((x4 + 5)))]) ⟨rfl, rfl, rfl, rfl, rfl, trivial⟩ ?_
      exact hrec ((x4 + 5)) (r_11.2.2.2) (c + 3) (s + 18) (by omega) h
  · refine go_icmp_eq (tgt := 568) (d_L_law_10 563 rfl) (by decide) (fun q => absurd q (of_decide_eq_false c_14)) (fun _ => ?_)
    refine go_iconst (x := (0 : Int32)) (d_L_law_10 566 rfl) (by decide) ?_
    cases h
def f_L_law_588 (L : Nat) (xs : Nat → Int32) (rec : Int32 → go_V → Option go_R) (x4 : Int32) (v : go_V) : Option go_R := gd (go_in (x4 + (1 : Int32)) L) (gd (go_in (x4 + (2 : Int32)) L) (bd (f_L_ask (xs (x4 + (1 : Int32)).toNatClampNeg) (xs (x4 + (2 : Int32)).toNatClampNeg) v) (fun r_3 => nt r_3 (gd (go_in (x4 + (1 : Int32)) L) (gd (go_in (x4 + (2 : Int32)) L) (bd (f_M_ask (xs (x4 + (1 : Int32)).toNatClampNeg) (xs (x4 + (2 : Int32)).toNatClampNeg) r_3.2.2.2) (fun r_8 => nt r_8 (bd (f_M_thrown r_8.2.2.2) (fun r_11 => nt r_11 (br (decide (r_11.2.1 = r_3.2.1)) (br (decide (r_3.2.1 = 0)) (gd (go_in (0 : Int32) 1) (br (decide ((go_lc (r_11.2.2.2 119 (0 : Int32).toNatClampNeg) r_8.2.1) = 0)) (rec ((x4 + 5)) (r_11.2.2.2)) (none))) (rec ((x4 + 5)) (r_11.2.2.2))) (none)))))))))))
set_option maxHeartbeats 4000000 in
set_option maxRecDepth 100000 in
theorem b_L_law_588 {l : Launch} {G : go_G} {ad : Nat → Nat} {b L : Nat} {xs : Nat → Int32} (hl : l.stackTraces = false) (rec : Int32 → go_V → Option go_R) {r : go_R} {n : Nat} (hrec : ∀ (x4 : Int32) (v : go_V) (c s : Nat), c + 8 * n ≤ 621509 ∧ s + 48 * n ≤ 7231577 → rec x4 v = some r → Go l G M_L_law (go_ExL b L xs) (go_EnL b) ad v [(0, .ref b), (1, .ref (ad 0)), (2, .ref (ad 100)), (3, .ref (ad 119)), (4, .int x4)] 23 [] c s) (x4 : Int32) (v : go_V) (c s : Nat) (hb : c + 8 * (n + 1) ≤ 621509 ∧ s + 48 * (n + 1) ≤ 7231577) (h : f_L_law_588 L xs rec x4 v = some r) : Go l G M_L_law (go_ExL b L xs) (go_EnL b) ad v [(0, .ref b), (1, .ref (ad 0)), (2, .ref (ad 100)), (3, .ref (ad 119)), (4, .int x4)] 588 [] c s := by
  unfold f_L_law_588 at h
  refine go_aload_n (d_L_law_10 588 rfl) rfl rfl ?_
  refine go_aload_n (d_L_law_10 589 rfl) rfl rfl ?_
  refine go_iload (d_L_law_10 590 rfl) rfl ?_
  refine go_iconst (x := (1 : Int32)) (d_L_law_10 592 rfl) (by decide) ?_
  refine go_iadd (d_L_law_11 593 rfl) ?_
  obtain ⟨g_1, h⟩ := gd_some h
  refine go_sld (d_L_law_11 594 rfl) g_1 ?_
  refine go_aload_n (d_L_law_11 595 rfl) rfl rfl ?_
  refine go_iload (d_L_law_11 596 rfl) rfl ?_
  refine go_iconst (x := (2 : Int32)) (d_L_law_11 598 rfl) (by decide) ?_
  refine go_iadd (d_L_law_11 599 rfl) ?_
  obtain ⟨g_2, h⟩ := gd_some h
  refine go_sld (d_L_law_11 600 rfl) g_2 ?_
  refine go_aload_n (d_L_law_11 601 rfl) rfl rfl ?_
  obtain ⟨r_3, o_4, h⟩ := bd_some h
  obtain ⟨z_5, h⟩ := nt_some h
  refine go_cX (As := [.ref (ad (0)), .int ((xs (x4 + (1 : Int32)).toNatClampNeg)), .int ((xs (x4 + (2 : Int32)).toNatClampNeg)), .ref (ad (119))]) (rest := []) (st2 := [.int (r_3.2.1)]) (c2 := c + 3) (s2 := s + 18) rfl rfl rfl rfl (Ca_L_ask hl o_4)  (d_L_law_11 602 rfl) cw_L_119 w_427 ⟨by decide, by decide⟩ rfl (Nat.le_of_ble_eq_true rfl) ⟨(by omega : c + 3 ≤ 621509), (by omega : s + 18 ≤ 7231577)⟩ (fun _ => ?_) (fun q => absurd z_5 q)
  refine go_istore (lv' := [(0, .ref b), (1, .ref (ad (0))), (2, .ref (ad (100))), (3, .ref (ad (119))), (4, .int x4), (5, .int (r_3.2.1))]) (d_L_law_11 605 rfl) (by decide) rfl ?_
  refine go_aload_n (d_L_law_11 607 rfl) rfl rfl ?_
  refine go_aload_n (d_L_law_11 608 rfl) rfl rfl ?_
  refine go_iload (d_L_law_11 609 rfl) rfl ?_
  refine go_iconst (x := (1 : Int32)) (d_L_law_11 611 rfl) (by decide) ?_
  refine go_iadd (d_L_law_11 612 rfl) ?_
  obtain ⟨g_6, h⟩ := gd_some h
  refine go_sld (d_L_law_11 613 rfl) g_6 ?_
  refine go_aload_n (d_L_law_11 614 rfl) rfl rfl ?_
  refine go_iload (d_L_law_11 615 rfl) rfl ?_
  refine go_iconst (x := (2 : Int32)) (d_L_law_11 617 rfl) (by decide) ?_
  refine go_iadd (d_L_law_11 618 rfl) ?_
  obtain ⟨g_7, h⟩ := gd_some h
  refine go_sld (d_L_law_11 619 rfl) g_7 ?_
  obtain ⟨r_8, o_9, h⟩ := bd_some h
  obtain ⟨z_10, h⟩ := nt_some h
  refine go_cV (As := [.int ((xs (x4 + (1 : Int32)).toNatClampNeg)), .int ((xs (x4 + (2 : Int32)).toNatClampNeg))]) (rest := []) (st2 := [.int (r_8.2.1)]) (c2 := c + 3) (s2 := s + 18) rfl rfl rfl rfl (Ca_M_ask hl o_9)  (d_L_law_11 620 rfl) cw_L_121 ⟨w_700, w_701⟩ rfl (by decide) rfl ⟨by decide, by decide⟩ rfl (Nat.le_of_ble_eq_true rfl) ⟨(by omega : c + 3 ≤ 621509), (by omega : s + 18 ≤ 7231577)⟩ (fun _ => ?_) (fun q => absurd z_10 q)
  refine go_istore (lv' := [(0, .ref b), (1, .ref (ad (0))), (2, .ref (ad (100))), (3, .ref (ad (119))), (4, .int x4), (5, .int (r_3.2.1)), (6, .int (r_8.2.1))]) (d_L_law_11 623 rfl) (by decide) rfl ?_
  refine go_aload_n (d_L_law_11 625 rfl) rfl rfl ?_
  obtain ⟨r_11, o_12, h⟩ := bd_some h
  obtain ⟨z_13, h⟩ := nt_some h
  refine go_cV (As := []) (rest := []) (st2 := [.int (r_11.2.1)]) (c2 := c + 3) (s2 := s + 18) rfl rfl rfl rfl (Ca_M_thrown hl o_12)  (d_L_law_11 626 rfl) cw_L_90 ⟨w_631, w_632⟩ rfl (by decide) rfl ⟨by decide, by decide⟩ rfl (Nat.le_of_ble_eq_true rfl) ⟨(by omega : c + 3 ≤ 621509), (by omega : s + 18 ≤ 7231577)⟩ (fun _ => ?_) (fun q => absurd z_13 q)
  refine go_iload (d_L_law_11 629 rfl) rfl ?_
  rcases br_some h with ⟨c_14, h⟩ | ⟨c_14, h⟩
  · refine go_icmp_eq (tgt := 636) (d_L_law_11 631 rfl) (by decide) (fun _ => ?_) (fun q => absurd (of_decide_eq_true c_14) q)
    refine go_iload (d_L_law_11 636 rfl) rfl ?_
    rcases br_some h with ⟨c_15, h⟩ | ⟨c_15, h⟩
    · refine go_if_ne (tgt := 653) (d_L_law_12 638 rfl) (by decide) (fun q => absurd (of_decide_eq_true c_15) q) (fun _ => ?_)
      refine go_aload_n (d_L_law_12 641 rfl) rfl rfl ?_
      refine go_iconst (x := (0 : Int32)) (d_L_law_12 642 rfl) (by decide) ?_
      obtain ⟨g_16, h⟩ := gd_some h
      refine go_lald (d_L_law_12 643 rfl) rfl g_16 ?_
      refine go_iload (d_L_law_12 644 rfl) rfl ?_
      refine go_i2l (d_L_law_12 646 rfl) ?_
      refine go_lcmp (d_L_law_12 647 rfl) ?_
      rcases br_some h with ⟨c_17, h⟩ | ⟨c_17, h⟩
      · refine go_if_eq (tgt := 653) (d_L_law_12 648 rfl) (by decide) (fun _ => ?_) (fun q => absurd (of_decide_eq_true c_17) q)
        refine go_goto (tgt := 1228) (d_L_law_12 653 rfl) (by decide) ?_
        refine go_iinc (y := (x4 + 5)) (lv' := [(0, .ref b), (1, .ref (ad (0))), (2, .ref (ad (100))), (3, .ref (ad (119))), (4, .int ((x4 + 5))), (5, .int (r_3.2.1)), (6, .int (r_8.2.1))]) (d_L_law_24 1228 rfl) rfl rfl (by decide) rfl ?_
        refine go_goto (tgt := 23) (d_L_law_24 1231 rfl) (by decide) ?_
        refine go_sub (lv' := [(0, .ref b), (1, .ref (ad (0))), (2, .ref (ad (100))), (3, .ref (ad (119))), (4, .int ((x4 + 5)))]) ⟨rfl, rfl, rfl, rfl, rfl, trivial⟩ ?_
        exact hrec ((x4 + 5)) (r_11.2.2.2) (c + 3) (s + 18) (by omega) h
      · refine go_if_eq (tgt := 653) (d_L_law_12 648 rfl) (by decide) (fun q => absurd q (of_decide_eq_false c_17)) (fun _ => ?_)
        refine go_iconst (x := (0 : Int32)) (d_L_law_12 651 rfl) (by decide) ?_
        cases h
    · refine go_if_ne (tgt := 653) (d_L_law_12 638 rfl) (by decide) (fun _ => ?_) (fun q => absurd q (of_decide_eq_false c_15))
      refine go_goto (tgt := 1228) (d_L_law_12 653 rfl) (by decide) ?_
      refine go_iinc (y := (x4 + 5)) (lv' := [(0, .ref b), (1, .ref (ad (0))), (2, .ref (ad (100))), (3, .ref (ad (119))), (4, .int ((x4 + 5))), (5, .int (r_3.2.1)), (6, .int (r_8.2.1))]) (d_L_law_24 1228 rfl) rfl rfl (by decide) rfl ?_
      refine go_goto (tgt := 23) (d_L_law_24 1231 rfl) (by decide) ?_
      refine go_sub (lv' := [(0, .ref b), (1, .ref (ad (0))), (2, .ref (ad (100))), (3, .ref (ad (119))), (4, .int ((x4 + 5)))]) ⟨rfl, rfl, rfl, rfl, rfl, trivial⟩ ?_
      exact hrec ((x4 + 5)) (r_11.2.2.2) (c + 3) (s + 18) (by omega) h
  · refine go_icmp_eq (tgt := 636) (d_L_law_11 631 rfl) (by decide) (fun q => absurd q (of_decide_eq_false c_14)) (fun _ => ?_)
    refine go_iconst (x := (0 : Int32)) (d_L_law_11 634 rfl) (by decide) ?_
    cases h
def f_L_law_656 (L : Nat) (xs : Nat → Int32) (rec : Int32 → go_V → Option go_R) (x4 : Int32) (v : go_V) : Option go_R := gd (go_in (x4 + (1 : Int32)) L) (bd (f_L_tell (xs (x4 + (1 : Int32)).toNatClampNeg) v) (fun r_2 => nt r_2 (gd (go_in (x4 + (1 : Int32)) L) (bd (f_M_tell (xs (x4 + (1 : Int32)).toNatClampNeg) r_2.2.2.2) (fun r_6 => nt r_6 (bd (f_M_thrown r_6.2.2.2) (fun r_9 => nt r_9 (br (decide (r_9.2.1 = r_2.2.1)) (rec ((x4 + 5)) (r_9.2.2.2)) (none)))))))))
set_option maxHeartbeats 4000000 in
set_option maxRecDepth 100000 in
theorem b_L_law_656 {l : Launch} {G : go_G} {ad : Nat → Nat} {b L : Nat} {xs : Nat → Int32} (hl : l.stackTraces = false) (rec : Int32 → go_V → Option go_R) {r : go_R} {n : Nat} (hrec : ∀ (x4 : Int32) (v : go_V) (c s : Nat), c + 8 * n ≤ 621509 ∧ s + 48 * n ≤ 7231577 → rec x4 v = some r → Go l G M_L_law (go_ExL b L xs) (go_EnL b) ad v [(0, .ref b), (1, .ref (ad 0)), (2, .ref (ad 100)), (3, .ref (ad 119)), (4, .int x4)] 23 [] c s) (x4 : Int32) (v : go_V) (c s : Nat) (hb : c + 8 * (n + 1) ≤ 621509 ∧ s + 48 * (n + 1) ≤ 7231577) (h : f_L_law_656 L xs rec x4 v = some r) : Go l G M_L_law (go_ExL b L xs) (go_EnL b) ad v [(0, .ref b), (1, .ref (ad 0)), (2, .ref (ad 100)), (3, .ref (ad 119)), (4, .int x4)] 656 [] c s := by
  unfold f_L_law_656 at h
  refine go_aload_n (d_L_law_12 656 rfl) rfl rfl ?_
  refine go_aload_n (d_L_law_12 657 rfl) rfl rfl ?_
  refine go_iload (d_L_law_12 658 rfl) rfl ?_
  refine go_iconst (x := (1 : Int32)) (d_L_law_12 660 rfl) (by decide) ?_
  refine go_iadd (d_L_law_12 661 rfl) ?_
  obtain ⟨g_1, h⟩ := gd_some h
  refine go_sld (d_L_law_12 662 rfl) g_1 ?_
  obtain ⟨r_2, o_3, h⟩ := bd_some h
  obtain ⟨z_4, h⟩ := nt_some h
  refine go_cX (As := [.ref (ad (0)), .int ((xs (x4 + (1 : Int32)).toNatClampNeg))]) (rest := []) (st2 := [.int (r_2.2.1)]) (c2 := c + 2) (s2 := s + 12) rfl rfl rfl rfl (Ca_L_tell hl o_3)  (d_L_law_12 663 rfl) cw_L_122 w_434 ⟨by decide, by decide⟩ rfl (Nat.le_of_ble_eq_true rfl) ⟨(by omega : c + 2 ≤ 621509), (by omega : s + 12 ≤ 7231577)⟩ (fun _ => ?_) (fun q => absurd z_4 q)
  refine go_istore (lv' := [(0, .ref b), (1, .ref (ad (0))), (2, .ref (ad (100))), (3, .ref (ad (119))), (4, .int x4), (5, .int (r_2.2.1))]) (d_L_law_12 666 rfl) (by decide) rfl ?_
  refine go_aload_n (d_L_law_12 668 rfl) rfl rfl ?_
  refine go_aload_n (d_L_law_12 669 rfl) rfl rfl ?_
  refine go_iload (d_L_law_12 670 rfl) rfl ?_
  refine go_iconst (x := (1 : Int32)) (d_L_law_12 672 rfl) (by decide) ?_
  refine go_iadd (d_L_law_12 673 rfl) ?_
  obtain ⟨g_5, h⟩ := gd_some h
  refine go_sld (d_L_law_12 674 rfl) g_5 ?_
  obtain ⟨r_6, o_7, h⟩ := bd_some h
  obtain ⟨z_8, h⟩ := nt_some h
  refine go_cV (As := [.int ((xs (x4 + (1 : Int32)).toNatClampNeg))]) (rest := []) (st2 := []) (c2 := c + 2) (s2 := s + 12) rfl rfl rfl rfl (Ca_M_tell hl o_7)  (d_L_law_12 675 rfl) cw_L_124 ⟨w_704, w_705⟩ rfl (by decide) rfl ⟨by decide, by decide⟩ rfl (Nat.le_of_ble_eq_true rfl) ⟨(by omega : c + 2 ≤ 621509), (by omega : s + 12 ≤ 7231577)⟩ (fun _ => ?_) (fun q => absurd z_8 q)
  refine go_aload_n (d_L_law_12 678 rfl) rfl rfl ?_
  obtain ⟨r_9, o_10, h⟩ := bd_some h
  obtain ⟨z_11, h⟩ := nt_some h
  refine go_cV (As := []) (rest := []) (st2 := [.int (r_9.2.1)]) (c2 := c + 2) (s2 := s + 12) rfl rfl rfl rfl (Ca_M_thrown hl o_10)  (d_L_law_12 679 rfl) cw_L_90 ⟨w_631, w_632⟩ rfl (by decide) rfl ⟨by decide, by decide⟩ rfl (Nat.le_of_ble_eq_true rfl) ⟨(by omega : c + 2 ≤ 621509), (by omega : s + 12 ≤ 7231577)⟩ (fun _ => ?_) (fun q => absurd z_11 q)
  refine go_iload (d_L_law_12 682 rfl) rfl ?_
  rcases br_some h with ⟨c_12, h⟩ | ⟨c_12, h⟩
  · refine go_icmp_eq (tgt := 689) (d_L_law_12 684 rfl) (by decide) (fun _ => ?_) (fun q => absurd (of_decide_eq_true c_12) q)
    refine go_goto (tgt := 1228) (d_L_law_13 689 rfl) (by decide) ?_
    refine go_iinc (y := (x4 + 5)) (lv' := [(0, .ref b), (1, .ref (ad (0))), (2, .ref (ad (100))), (3, .ref (ad (119))), (4, .int ((x4 + 5))), (5, .int (r_2.2.1))]) (d_L_law_24 1228 rfl) rfl rfl (by decide) rfl ?_
    refine go_goto (tgt := 23) (d_L_law_24 1231 rfl) (by decide) ?_
    refine go_sub (lv' := [(0, .ref b), (1, .ref (ad (0))), (2, .ref (ad (100))), (3, .ref (ad (119))), (4, .int ((x4 + 5)))]) ⟨rfl, rfl, rfl, rfl, rfl, trivial⟩ ?_
    exact hrec ((x4 + 5)) (r_9.2.2.2) (c + 2) (s + 12) (by omega) h
  · refine go_icmp_eq (tgt := 689) (d_L_law_12 684 rfl) (by decide) (fun q => absurd q (of_decide_eq_false c_12)) (fun _ => ?_)
    refine go_iconst (x := (0 : Int32)) (d_L_law_13 687 rfl) (by decide) ?_
    cases h
def f_L_law_692 (L : Nat) (xs : Nat → Int32) (rec : Int32 → go_V → Option go_R) (x4 : Int32) (v : go_V) : Option go_R := gd (go_in (x4 + (1 : Int32)) L) (gd (go_in (x4 + (2 : Int32)) L) (bd (f_L_calm (xs (x4 + (1 : Int32)).toNatClampNeg) (xs (x4 + (2 : Int32)).toNatClampNeg) v) (fun r_3 => nt r_3 (gd (go_in (x4 + (1 : Int32)) L) (gd (go_in (x4 + (2 : Int32)) L) (bd (f_M_calm (xs (x4 + (1 : Int32)).toNatClampNeg) (xs (x4 + (2 : Int32)).toNatClampNeg) r_3.2.2.2) (fun r_8 => nt r_8 (bd (f_M_thrown r_8.2.2.2) (fun r_11 => nt r_11 (br (decide (r_11.2.1 = r_3.2.1)) (br (decide (r_3.2.1 = 0)) (gd (go_in (0 : Int32) 1) (br (decide ((go_lc (r_11.2.2.2 119 (0 : Int32).toNatClampNeg) r_8.2.1) = 0)) (rec ((x4 + 5)) (r_11.2.2.2)) (none))) (rec ((x4 + 5)) (r_11.2.2.2))) (none)))))))))))
set_option maxHeartbeats 4000000 in
set_option maxRecDepth 100000 in
theorem b_L_law_692 {l : Launch} {G : go_G} {ad : Nat → Nat} {b L : Nat} {xs : Nat → Int32} (hl : l.stackTraces = false) (rec : Int32 → go_V → Option go_R) {r : go_R} {n : Nat} (hrec : ∀ (x4 : Int32) (v : go_V) (c s : Nat), c + 8 * n ≤ 621509 ∧ s + 48 * n ≤ 7231577 → rec x4 v = some r → Go l G M_L_law (go_ExL b L xs) (go_EnL b) ad v [(0, .ref b), (1, .ref (ad 0)), (2, .ref (ad 100)), (3, .ref (ad 119)), (4, .int x4)] 23 [] c s) (x4 : Int32) (v : go_V) (c s : Nat) (hb : c + 8 * (n + 1) ≤ 621509 ∧ s + 48 * (n + 1) ≤ 7231577) (h : f_L_law_692 L xs rec x4 v = some r) : Go l G M_L_law (go_ExL b L xs) (go_EnL b) ad v [(0, .ref b), (1, .ref (ad 0)), (2, .ref (ad 100)), (3, .ref (ad 119)), (4, .int x4)] 692 [] c s := by
  unfold f_L_law_692 at h
  refine go_aload_n (d_L_law_13 692 rfl) rfl rfl ?_
  refine go_aload_n (d_L_law_13 693 rfl) rfl rfl ?_
  refine go_iload (d_L_law_13 694 rfl) rfl ?_
  refine go_iconst (x := (1 : Int32)) (d_L_law_13 696 rfl) (by decide) ?_
  refine go_iadd (d_L_law_13 697 rfl) ?_
  obtain ⟨g_1, h⟩ := gd_some h
  refine go_sld (d_L_law_13 698 rfl) g_1 ?_
  refine go_aload_n (d_L_law_13 699 rfl) rfl rfl ?_
  refine go_iload (d_L_law_13 700 rfl) rfl ?_
  refine go_iconst (x := (2 : Int32)) (d_L_law_13 702 rfl) (by decide) ?_
  refine go_iadd (d_L_law_13 703 rfl) ?_
  obtain ⟨g_2, h⟩ := gd_some h
  refine go_sld (d_L_law_13 704 rfl) g_2 ?_
  refine go_aload_n (d_L_law_13 705 rfl) rfl rfl ?_
  obtain ⟨r_3, o_4, h⟩ := bd_some h
  obtain ⟨z_5, h⟩ := nt_some h
  refine go_cX (As := [.ref (ad (0)), .int ((xs (x4 + (1 : Int32)).toNatClampNeg)), .int ((xs (x4 + (2 : Int32)).toNatClampNeg)), .ref (ad (119))]) (rest := []) (st2 := [.int (r_3.2.1)]) (c2 := c + 4) (s2 := s + 24) rfl rfl rfl rfl (Ca_L_calm hl o_4)  (d_L_law_13 706 rfl) cw_L_125 w_441 ⟨by decide, by decide⟩ rfl (Nat.le_of_ble_eq_true rfl) ⟨(by omega : c + 4 ≤ 621509), (by omega : s + 24 ≤ 7231577)⟩ (fun _ => ?_) (fun q => absurd z_5 q)
  refine go_istore (lv' := [(0, .ref b), (1, .ref (ad (0))), (2, .ref (ad (100))), (3, .ref (ad (119))), (4, .int x4), (5, .int (r_3.2.1))]) (d_L_law_13 709 rfl) (by decide) rfl ?_
  refine go_aload_n (d_L_law_13 711 rfl) rfl rfl ?_
  refine go_aload_n (d_L_law_13 712 rfl) rfl rfl ?_
  refine go_iload (d_L_law_13 713 rfl) rfl ?_
  refine go_iconst (x := (1 : Int32)) (d_L_law_13 715 rfl) (by decide) ?_
  refine go_iadd (d_L_law_13 716 rfl) ?_
  obtain ⟨g_6, h⟩ := gd_some h
  refine go_sld (d_L_law_13 717 rfl) g_6 ?_
  refine go_aload_n (d_L_law_13 718 rfl) rfl rfl ?_
  refine go_iload (d_L_law_13 719 rfl) rfl ?_
  refine go_iconst (x := (2 : Int32)) (d_L_law_13 721 rfl) (by decide) ?_
  refine go_iadd (d_L_law_13 722 rfl) ?_
  obtain ⟨g_7, h⟩ := gd_some h
  refine go_sld (d_L_law_13 723 rfl) g_7 ?_
  obtain ⟨r_8, o_9, h⟩ := bd_some h
  obtain ⟨z_10, h⟩ := nt_some h
  refine go_cV (As := [.int ((xs (x4 + (1 : Int32)).toNatClampNeg)), .int ((xs (x4 + (2 : Int32)).toNatClampNeg))]) (rest := []) (st2 := [.int (r_8.2.1)]) (c2 := c + 4) (s2 := s + 24) rfl rfl rfl rfl (Ca_M_calm hl o_9)  (d_L_law_13 724 rfl) cw_L_127 ⟨w_708, w_709⟩ rfl (by decide) rfl ⟨by decide, by decide⟩ rfl (Nat.le_of_ble_eq_true rfl) ⟨(by omega : c + 4 ≤ 621509), (by omega : s + 24 ≤ 7231577)⟩ (fun _ => ?_) (fun q => absurd z_10 q)
  refine go_istore (lv' := [(0, .ref b), (1, .ref (ad (0))), (2, .ref (ad (100))), (3, .ref (ad (119))), (4, .int x4), (5, .int (r_3.2.1)), (6, .int (r_8.2.1))]) (d_L_law_13 727 rfl) (by decide) rfl ?_
  refine go_aload_n (d_L_law_14 729 rfl) rfl rfl ?_
  obtain ⟨r_11, o_12, h⟩ := bd_some h
  obtain ⟨z_13, h⟩ := nt_some h
  refine go_cV (As := []) (rest := []) (st2 := [.int (r_11.2.1)]) (c2 := c + 4) (s2 := s + 24) rfl rfl rfl rfl (Ca_M_thrown hl o_12)  (d_L_law_14 730 rfl) cw_L_90 ⟨w_631, w_632⟩ rfl (by decide) rfl ⟨by decide, by decide⟩ rfl (Nat.le_of_ble_eq_true rfl) ⟨(by omega : c + 4 ≤ 621509), (by omega : s + 24 ≤ 7231577)⟩ (fun _ => ?_) (fun q => absurd z_13 q)
  refine go_iload (d_L_law_14 733 rfl) rfl ?_
  rcases br_some h with ⟨c_14, h⟩ | ⟨c_14, h⟩
  · refine go_icmp_eq (tgt := 740) (d_L_law_14 735 rfl) (by decide) (fun _ => ?_) (fun q => absurd (of_decide_eq_true c_14) q)
    refine go_iload (d_L_law_14 740 rfl) rfl ?_
    rcases br_some h with ⟨c_15, h⟩ | ⟨c_15, h⟩
    · refine go_if_ne (tgt := 757) (d_L_law_14 742 rfl) (by decide) (fun q => absurd (of_decide_eq_true c_15) q) (fun _ => ?_)
      refine go_aload_n (d_L_law_14 745 rfl) rfl rfl ?_
      refine go_iconst (x := (0 : Int32)) (d_L_law_14 746 rfl) (by decide) ?_
      obtain ⟨g_16, h⟩ := gd_some h
      refine go_lald (d_L_law_14 747 rfl) rfl g_16 ?_
      refine go_iload (d_L_law_14 748 rfl) rfl ?_
      refine go_i2l (d_L_law_14 750 rfl) ?_
      refine go_lcmp (d_L_law_14 751 rfl) ?_
      rcases br_some h with ⟨c_17, h⟩ | ⟨c_17, h⟩
      · refine go_if_eq (tgt := 757) (d_L_law_14 752 rfl) (by decide) (fun _ => ?_) (fun q => absurd (of_decide_eq_true c_17) q)
        refine go_goto (tgt := 1228) (d_L_law_14 757 rfl) (by decide) ?_
        refine go_iinc (y := (x4 + 5)) (lv' := [(0, .ref b), (1, .ref (ad (0))), (2, .ref (ad (100))), (3, .ref (ad (119))), (4, .int ((x4 + 5))), (5, .int (r_3.2.1)), (6, .int (r_8.2.1))]) (d_L_law_24 1228 rfl) rfl rfl (by decide) rfl ?_
        refine go_goto (tgt := 23) (d_L_law_24 1231 rfl) (by decide) ?_
        refine go_sub (lv' := [(0, .ref b), (1, .ref (ad (0))), (2, .ref (ad (100))), (3, .ref (ad (119))), (4, .int ((x4 + 5)))]) ⟨rfl, rfl, rfl, rfl, rfl, trivial⟩ ?_
        exact hrec ((x4 + 5)) (r_11.2.2.2) (c + 4) (s + 24) (by omega) h
      · refine go_if_eq (tgt := 757) (d_L_law_14 752 rfl) (by decide) (fun q => absurd q (of_decide_eq_false c_17)) (fun _ => ?_)
        refine go_iconst (x := (0 : Int32)) (d_L_law_14 755 rfl) (by decide) ?_
        cases h
    · refine go_if_ne (tgt := 757) (d_L_law_14 742 rfl) (by decide) (fun _ => ?_) (fun q => absurd q (of_decide_eq_false c_15))
      refine go_goto (tgt := 1228) (d_L_law_14 757 rfl) (by decide) ?_
      refine go_iinc (y := (x4 + 5)) (lv' := [(0, .ref b), (1, .ref (ad (0))), (2, .ref (ad (100))), (3, .ref (ad (119))), (4, .int ((x4 + 5))), (5, .int (r_3.2.1)), (6, .int (r_8.2.1))]) (d_L_law_24 1228 rfl) rfl rfl (by decide) rfl ?_
      refine go_goto (tgt := 23) (d_L_law_24 1231 rfl) (by decide) ?_
      refine go_sub (lv' := [(0, .ref b), (1, .ref (ad (0))), (2, .ref (ad (100))), (3, .ref (ad (119))), (4, .int ((x4 + 5)))]) ⟨rfl, rfl, rfl, rfl, rfl, trivial⟩ ?_
      exact hrec ((x4 + 5)) (r_11.2.2.2) (c + 4) (s + 24) (by omega) h
  · refine go_icmp_eq (tgt := 740) (d_L_law_14 735 rfl) (by decide) (fun q => absurd q (of_decide_eq_false c_14)) (fun _ => ?_)
    refine go_iconst (x := (0 : Int32)) (d_L_law_14 738 rfl) (by decide) ?_
    cases h
def f_L_law_760 (L : Nat) (xs : Nat → Int32) (rec : Int32 → go_V → Option go_R) (x4 : Int32) (v : go_V) : Option go_R := gd (go_in (x4 + (1 : Int32)) L) (bd (f_L_unit (xs (x4 + (1 : Int32)).toNatClampNeg) v) (fun r_2 => nt r_2 (gd (go_in (x4 + (1 : Int32)) L) (bd (f_M_unit (xs (x4 + (1 : Int32)).toNatClampNeg) r_2.2.2.2) (fun r_6 => nt r_6 (bd (f_M_thrown r_6.2.2.2) (fun r_9 => nt r_9 (br (decide (r_9.2.1 = r_2.2.1)) (br (decide (r_2.2.1 = 0)) (gd (go_in (0 : Int32) 1) (br (decide ((go_lc (r_9.2.2.2 119 (0 : Int32).toNatClampNeg) r_6.2.1) = 0)) (rec ((x4 + 5)) (r_9.2.2.2)) (none))) (rec ((x4 + 5)) (r_9.2.2.2))) (none)))))))))
set_option maxHeartbeats 4000000 in
set_option maxRecDepth 100000 in
theorem b_L_law_760 {l : Launch} {G : go_G} {ad : Nat → Nat} {b L : Nat} {xs : Nat → Int32} (hl : l.stackTraces = false) (rec : Int32 → go_V → Option go_R) {r : go_R} {n : Nat} (hrec : ∀ (x4 : Int32) (v : go_V) (c s : Nat), c + 8 * n ≤ 621509 ∧ s + 48 * n ≤ 7231577 → rec x4 v = some r → Go l G M_L_law (go_ExL b L xs) (go_EnL b) ad v [(0, .ref b), (1, .ref (ad 0)), (2, .ref (ad 100)), (3, .ref (ad 119)), (4, .int x4)] 23 [] c s) (x4 : Int32) (v : go_V) (c s : Nat) (hb : c + 8 * (n + 1) ≤ 621509 ∧ s + 48 * (n + 1) ≤ 7231577) (h : f_L_law_760 L xs rec x4 v = some r) : Go l G M_L_law (go_ExL b L xs) (go_EnL b) ad v [(0, .ref b), (1, .ref (ad 0)), (2, .ref (ad 100)), (3, .ref (ad 119)), (4, .int x4)] 760 [] c s := by
  unfold f_L_law_760 at h
  refine go_aload_n (d_L_law_14 760 rfl) rfl rfl ?_
  refine go_aload_n (d_L_law_14 761 rfl) rfl rfl ?_
  refine go_iload (d_L_law_14 762 rfl) rfl ?_
  refine go_iconst (x := (1 : Int32)) (d_L_law_14 764 rfl) (by decide) ?_
  refine go_iadd (d_L_law_14 765 rfl) ?_
  obtain ⟨g_1, h⟩ := gd_some h
  refine go_sld (d_L_law_14 766 rfl) g_1 ?_
  refine go_aload_n (d_L_law_14 767 rfl) rfl rfl ?_
  obtain ⟨r_2, o_3, h⟩ := bd_some h
  obtain ⟨z_4, h⟩ := nt_some h
  refine go_cX (As := [.ref (ad (0)), .int ((xs (x4 + (1 : Int32)).toNatClampNeg)), .ref (ad (119))]) (rest := []) (st2 := [.int (r_2.2.1)]) (c2 := c + 2) (s2 := s + 12) rfl rfl rfl rfl (Ca_L_unit hl o_3)  (d_L_law_14 768 rfl) cw_L_128 w_472 ⟨by decide, by decide⟩ rfl (Nat.le_of_ble_eq_true rfl) ⟨(by omega : c + 2 ≤ 621509), (by omega : s + 12 ≤ 7231577)⟩ (fun _ => ?_) (fun q => absurd z_4 q)
  refine go_istore (lv' := [(0, .ref b), (1, .ref (ad (0))), (2, .ref (ad (100))), (3, .ref (ad (119))), (4, .int x4), (5, .int (r_2.2.1))]) (d_L_law_14 771 rfl) (by decide) rfl ?_
  refine go_aload_n (d_L_law_14 773 rfl) rfl rfl ?_
  refine go_aload_n (d_L_law_14 774 rfl) rfl rfl ?_
  refine go_iload (d_L_law_14 775 rfl) rfl ?_
  refine go_iconst (x := (1 : Int32)) (d_L_law_15 777 rfl) (by decide) ?_
  refine go_iadd (d_L_law_15 778 rfl) ?_
  obtain ⟨g_5, h⟩ := gd_some h
  refine go_sld (d_L_law_15 779 rfl) g_5 ?_
  obtain ⟨r_6, o_7, h⟩ := bd_some h
  obtain ⟨z_8, h⟩ := nt_some h
  refine go_cV (As := [.int ((xs (x4 + (1 : Int32)).toNatClampNeg))]) (rest := []) (st2 := [.int (r_6.2.1)]) (c2 := c + 2) (s2 := s + 12) rfl rfl rfl rfl (Ca_M_unit hl o_7)  (d_L_law_15 780 rfl) cw_L_130 ⟨w_720, w_721⟩ rfl (by decide) rfl ⟨by decide, by decide⟩ rfl (Nat.le_of_ble_eq_true rfl) ⟨(by omega : c + 2 ≤ 621509), (by omega : s + 12 ≤ 7231577)⟩ (fun _ => ?_) (fun q => absurd z_8 q)
  refine go_istore (lv' := [(0, .ref b), (1, .ref (ad (0))), (2, .ref (ad (100))), (3, .ref (ad (119))), (4, .int x4), (5, .int (r_2.2.1)), (6, .int (r_6.2.1))]) (d_L_law_15 783 rfl) (by decide) rfl ?_
  refine go_aload_n (d_L_law_15 785 rfl) rfl rfl ?_
  obtain ⟨r_9, o_10, h⟩ := bd_some h
  obtain ⟨z_11, h⟩ := nt_some h
  refine go_cV (As := []) (rest := []) (st2 := [.int (r_9.2.1)]) (c2 := c + 2) (s2 := s + 12) rfl rfl rfl rfl (Ca_M_thrown hl o_10)  (d_L_law_15 786 rfl) cw_L_90 ⟨w_631, w_632⟩ rfl (by decide) rfl ⟨by decide, by decide⟩ rfl (Nat.le_of_ble_eq_true rfl) ⟨(by omega : c + 2 ≤ 621509), (by omega : s + 12 ≤ 7231577)⟩ (fun _ => ?_) (fun q => absurd z_11 q)
  refine go_iload (d_L_law_15 789 rfl) rfl ?_
  rcases br_some h with ⟨c_12, h⟩ | ⟨c_12, h⟩
  · refine go_icmp_eq (tgt := 796) (d_L_law_15 791 rfl) (by decide) (fun _ => ?_) (fun q => absurd (of_decide_eq_true c_12) q)
    refine go_iload (d_L_law_15 796 rfl) rfl ?_
    rcases br_some h with ⟨c_13, h⟩ | ⟨c_13, h⟩
    · refine go_if_ne (tgt := 813) (d_L_law_15 798 rfl) (by decide) (fun q => absurd (of_decide_eq_true c_13) q) (fun _ => ?_)
      refine go_aload_n (d_L_law_15 801 rfl) rfl rfl ?_
      refine go_iconst (x := (0 : Int32)) (d_L_law_15 802 rfl) (by decide) ?_
      obtain ⟨g_14, h⟩ := gd_some h
      refine go_lald (d_L_law_15 803 rfl) rfl g_14 ?_
      refine go_iload (d_L_law_15 804 rfl) rfl ?_
      refine go_i2l (d_L_law_15 806 rfl) ?_
      refine go_lcmp (d_L_law_15 807 rfl) ?_
      rcases br_some h with ⟨c_15, h⟩ | ⟨c_15, h⟩
      · refine go_if_eq (tgt := 813) (d_L_law_15 808 rfl) (by decide) (fun _ => ?_) (fun q => absurd (of_decide_eq_true c_15) q)
        refine go_goto (tgt := 1228) (d_L_law_15 813 rfl) (by decide) ?_
        refine go_iinc (y := (x4 + 5)) (lv' := [(0, .ref b), (1, .ref (ad (0))), (2, .ref (ad (100))), (3, .ref (ad (119))), (4, .int ((x4 + 5))), (5, .int (r_2.2.1)), (6, .int (r_6.2.1))]) (d_L_law_24 1228 rfl) rfl rfl (by decide) rfl ?_
        refine go_goto (tgt := 23) (d_L_law_24 1231 rfl) (by decide) ?_
        refine go_sub (lv' := [(0, .ref b), (1, .ref (ad (0))), (2, .ref (ad (100))), (3, .ref (ad (119))), (4, .int ((x4 + 5)))]) ⟨rfl, rfl, rfl, rfl, rfl, trivial⟩ ?_
        exact hrec ((x4 + 5)) (r_9.2.2.2) (c + 2) (s + 12) (by omega) h
      · refine go_if_eq (tgt := 813) (d_L_law_15 808 rfl) (by decide) (fun q => absurd q (of_decide_eq_false c_15)) (fun _ => ?_)
        refine go_iconst (x := (0 : Int32)) (d_L_law_15 811 rfl) (by decide) ?_
        cases h
    · refine go_if_ne (tgt := 813) (d_L_law_15 798 rfl) (by decide) (fun _ => ?_) (fun q => absurd q (of_decide_eq_false c_13))
      refine go_goto (tgt := 1228) (d_L_law_15 813 rfl) (by decide) ?_
      refine go_iinc (y := (x4 + 5)) (lv' := [(0, .ref b), (1, .ref (ad (0))), (2, .ref (ad (100))), (3, .ref (ad (119))), (4, .int ((x4 + 5))), (5, .int (r_2.2.1)), (6, .int (r_6.2.1))]) (d_L_law_24 1228 rfl) rfl rfl (by decide) rfl ?_
      refine go_goto (tgt := 23) (d_L_law_24 1231 rfl) (by decide) ?_
      refine go_sub (lv' := [(0, .ref b), (1, .ref (ad (0))), (2, .ref (ad (100))), (3, .ref (ad (119))), (4, .int ((x4 + 5)))]) ⟨rfl, rfl, rfl, rfl, rfl, trivial⟩ ?_
      exact hrec ((x4 + 5)) (r_9.2.2.2) (c + 2) (s + 12) (by omega) h
  · refine go_icmp_eq (tgt := 796) (d_L_law_15 791 rfl) (by decide) (fun q => absurd q (of_decide_eq_false c_12)) (fun _ => ?_)
    refine go_iconst (x := (0 : Int32)) (d_L_law_15 794 rfl) (by decide) ?_
    cases h
def f_L_law_816 (L : Nat) (xs : Nat → Int32) (rec : Int32 → go_V → Option go_R) (x4 : Int32) (v : go_V) : Option go_R := gd (go_in (x4 + (1 : Int32)) L) (gd (go_in (x4 + (2 : Int32)) L) (gd (go_in (x4 + (3 : Int32)) L) (bd (f_L_go (xs (x4 + (1 : Int32)).toNatClampNeg) (xs (x4 + (2 : Int32)).toNatClampNeg) (xs (x4 + (3 : Int32)).toNatClampNeg) v) (fun r_4 => nt r_4 (gd (go_in (x4 + (1 : Int32)) L) (gd (go_in (x4 + (2 : Int32)) L) (gd (go_in (x4 + (3 : Int32)) L) (bd (f_M_go (xs (x4 + (1 : Int32)).toNatClampNeg) (xs (x4 + (2 : Int32)).toNatClampNeg) (xs (x4 + (3 : Int32)).toNatClampNeg) r_4.2.2.2) (fun r_10 => nt r_10 (bd (f_M_thrown r_10.2.2.2) (fun r_13 => nt r_13 (br (decide (r_13.2.1 = r_4.2.1)) (rec ((x4 + 5)) (r_13.2.2.2)) (none)))))))))))))
set_option maxHeartbeats 4000000 in
set_option maxRecDepth 100000 in
theorem b_L_law_816 {l : Launch} {G : go_G} {ad : Nat → Nat} {b L : Nat} {xs : Nat → Int32} (hl : l.stackTraces = false) (rec : Int32 → go_V → Option go_R) {r : go_R} {n : Nat} (hrec : ∀ (x4 : Int32) (v : go_V) (c s : Nat), c + 8 * n ≤ 621509 ∧ s + 48 * n ≤ 7231577 → rec x4 v = some r → Go l G M_L_law (go_ExL b L xs) (go_EnL b) ad v [(0, .ref b), (1, .ref (ad 0)), (2, .ref (ad 100)), (3, .ref (ad 119)), (4, .int x4)] 23 [] c s) (x4 : Int32) (v : go_V) (c s : Nat) (hb : c + 8 * (n + 1) ≤ 621509 ∧ s + 48 * (n + 1) ≤ 7231577) (h : f_L_law_816 L xs rec x4 v = some r) : Go l G M_L_law (go_ExL b L xs) (go_EnL b) ad v [(0, .ref b), (1, .ref (ad 0)), (2, .ref (ad 100)), (3, .ref (ad 119)), (4, .int x4)] 816 [] c s := by
  unfold f_L_law_816 at h
  refine go_aload_n (d_L_law_15 816 rfl) rfl rfl ?_
  refine go_aload_n (d_L_law_15 817 rfl) rfl rfl ?_
  refine go_iload (d_L_law_15 818 rfl) rfl ?_
  refine go_iconst (x := (1 : Int32)) (d_L_law_15 820 rfl) (by decide) ?_
  refine go_iadd (d_L_law_15 821 rfl) ?_
  obtain ⟨g_1, h⟩ := gd_some h
  refine go_sld (d_L_law_15 822 rfl) g_1 ?_
  refine go_aload_n (d_L_law_15 823 rfl) rfl rfl ?_
  refine go_iload (d_L_law_16 824 rfl) rfl ?_
  refine go_iconst (x := (2 : Int32)) (d_L_law_16 826 rfl) (by decide) ?_
  refine go_iadd (d_L_law_16 827 rfl) ?_
  obtain ⟨g_2, h⟩ := gd_some h
  refine go_sld (d_L_law_16 828 rfl) g_2 ?_
  refine go_aload_n (d_L_law_16 829 rfl) rfl rfl ?_
  refine go_iload (d_L_law_16 830 rfl) rfl ?_
  refine go_iconst (x := (3 : Int32)) (d_L_law_16 832 rfl) (by decide) ?_
  refine go_iadd (d_L_law_16 833 rfl) ?_
  obtain ⟨g_3, h⟩ := gd_some h
  refine go_sld (d_L_law_16 834 rfl) g_3 ?_
  obtain ⟨r_4, o_5, h⟩ := bd_some h
  obtain ⟨z_6, h⟩ := nt_some h
  refine go_cX (As := [.ref (ad (0)), .int ((xs (x4 + (1 : Int32)).toNatClampNeg)), .int ((xs (x4 + (2 : Int32)).toNatClampNeg)), .int ((xs (x4 + (3 : Int32)).toNatClampNeg))]) (rest := []) (st2 := [.int (r_4.2.1)]) (c2 := c + 5) (s2 := s + 30) rfl rfl rfl rfl (Ca_L_go hl o_5)  (d_L_law_16 835 rfl) cw_L_131 w_480 ⟨by decide, by decide⟩ rfl (Nat.le_of_ble_eq_true rfl) ⟨(by omega : c + 5 ≤ 621509), (by omega : s + 30 ≤ 7231577)⟩ (fun _ => ?_) (fun q => absurd z_6 q)
  refine go_istore (lv' := [(0, .ref b), (1, .ref (ad (0))), (2, .ref (ad (100))), (3, .ref (ad (119))), (4, .int x4), (5, .int (r_4.2.1))]) (d_L_law_16 838 rfl) (by decide) rfl ?_
  refine go_aload_n (d_L_law_16 840 rfl) rfl rfl ?_
  refine go_aload_n (d_L_law_16 841 rfl) rfl rfl ?_
  refine go_iload (d_L_law_16 842 rfl) rfl ?_
  refine go_iconst (x := (1 : Int32)) (d_L_law_16 844 rfl) (by decide) ?_
  refine go_iadd (d_L_law_16 845 rfl) ?_
  obtain ⟨g_7, h⟩ := gd_some h
  refine go_sld (d_L_law_16 846 rfl) g_7 ?_
  refine go_aload_n (d_L_law_16 847 rfl) rfl rfl ?_
  refine go_iload (d_L_law_16 848 rfl) rfl ?_
  refine go_iconst (x := (2 : Int32)) (d_L_law_16 850 rfl) (by decide) ?_
  refine go_iadd (d_L_law_16 851 rfl) ?_
  obtain ⟨g_8, h⟩ := gd_some h
  refine go_sld (d_L_law_16 852 rfl) g_8 ?_
  refine go_aload_n (d_L_law_16 853 rfl) rfl rfl ?_
  refine go_iload (d_L_law_16 854 rfl) rfl ?_
  refine go_iconst (x := (3 : Int32)) (d_L_law_16 856 rfl) (by decide) ?_
  refine go_iadd (d_L_law_16 857 rfl) ?_
  obtain ⟨g_9, h⟩ := gd_some h
  refine go_sld (d_L_law_16 858 rfl) g_9 ?_
  obtain ⟨r_10, o_11, h⟩ := bd_some h
  obtain ⟨z_12, h⟩ := nt_some h
  refine go_cV (As := [.int ((xs (x4 + (1 : Int32)).toNatClampNeg)), .int ((xs (x4 + (2 : Int32)).toNatClampNeg)), .int ((xs (x4 + (3 : Int32)).toNatClampNeg))]) (rest := []) (st2 := []) (c2 := c + 5) (s2 := s + 30) rfl rfl rfl rfl (Ca_M_go hl o_11)  (d_L_law_16 859 rfl) cw_L_133 ⟨w_724, w_725⟩ rfl (by decide) rfl ⟨by decide, by decide⟩ rfl (Nat.le_of_ble_eq_true rfl) ⟨(by omega : c + 5 ≤ 621509), (by omega : s + 30 ≤ 7231577)⟩ (fun _ => ?_) (fun q => absurd z_12 q)
  refine go_aload_n (d_L_law_16 862 rfl) rfl rfl ?_
  obtain ⟨r_13, o_14, h⟩ := bd_some h
  obtain ⟨z_15, h⟩ := nt_some h
  refine go_cV (As := []) (rest := []) (st2 := [.int (r_13.2.1)]) (c2 := c + 5) (s2 := s + 30) rfl rfl rfl rfl (Ca_M_thrown hl o_14)  (d_L_law_16 863 rfl) cw_L_90 ⟨w_631, w_632⟩ rfl (by decide) rfl ⟨by decide, by decide⟩ rfl (Nat.le_of_ble_eq_true rfl) ⟨(by omega : c + 5 ≤ 621509), (by omega : s + 30 ≤ 7231577)⟩ (fun _ => ?_) (fun q => absurd z_15 q)
  refine go_iload (d_L_law_17 866 rfl) rfl ?_
  rcases br_some h with ⟨c_16, h⟩ | ⟨c_16, h⟩
  · refine go_icmp_eq (tgt := 873) (d_L_law_17 868 rfl) (by decide) (fun _ => ?_) (fun q => absurd (of_decide_eq_true c_16) q)
    refine go_goto (tgt := 1228) (d_L_law_17 873 rfl) (by decide) ?_
    refine go_iinc (y := (x4 + 5)) (lv' := [(0, .ref b), (1, .ref (ad (0))), (2, .ref (ad (100))), (3, .ref (ad (119))), (4, .int ((x4 + 5))), (5, .int (r_4.2.1))]) (d_L_law_24 1228 rfl) rfl rfl (by decide) rfl ?_
    refine go_goto (tgt := 23) (d_L_law_24 1231 rfl) (by decide) ?_
    refine go_sub (lv' := [(0, .ref b), (1, .ref (ad (0))), (2, .ref (ad (100))), (3, .ref (ad (119))), (4, .int ((x4 + 5)))]) ⟨rfl, rfl, rfl, rfl, rfl, trivial⟩ ?_
    exact hrec ((x4 + 5)) (r_13.2.2.2) (c + 5) (s + 30) (by omega) h
  · refine go_icmp_eq (tgt := 873) (d_L_law_17 868 rfl) (by decide) (fun q => absurd q (of_decide_eq_false c_16)) (fun _ => ?_)
    refine go_iconst (x := (0 : Int32)) (d_L_law_17 871 rfl) (by decide) ?_
    cases h
def f_L_law_876 (L : Nat) (xs : Nat → Int32) (rec : Int32 → go_V → Option go_R) (x4 : Int32) (v : go_V) : Option go_R := gd (go_in (x4 + (1 : Int32)) L) (bd (f_L_arrive (xs (x4 + (1 : Int32)).toNatClampNeg) v) (fun r_2 => nt r_2 (gd (go_in (x4 + (1 : Int32)) L) (bd (f_M_arrive (xs (x4 + (1 : Int32)).toNatClampNeg) r_2.2.2.2) (fun r_6 => nt r_6 (bd (f_M_thrown r_6.2.2.2) (fun r_9 => nt r_9 (br (decide (r_9.2.1 = r_2.2.1)) (rec ((x4 + 5)) (r_9.2.2.2)) (none)))))))))
set_option maxHeartbeats 4000000 in
set_option maxRecDepth 100000 in
theorem b_L_law_876 {l : Launch} {G : go_G} {ad : Nat → Nat} {b L : Nat} {xs : Nat → Int32} (hl : l.stackTraces = false) (rec : Int32 → go_V → Option go_R) {r : go_R} {n : Nat} (hrec : ∀ (x4 : Int32) (v : go_V) (c s : Nat), c + 8 * n ≤ 621509 ∧ s + 48 * n ≤ 7231577 → rec x4 v = some r → Go l G M_L_law (go_ExL b L xs) (go_EnL b) ad v [(0, .ref b), (1, .ref (ad 0)), (2, .ref (ad 100)), (3, .ref (ad 119)), (4, .int x4)] 23 [] c s) (x4 : Int32) (v : go_V) (c s : Nat) (hb : c + 8 * (n + 1) ≤ 621509 ∧ s + 48 * (n + 1) ≤ 7231577) (h : f_L_law_876 L xs rec x4 v = some r) : Go l G M_L_law (go_ExL b L xs) (go_EnL b) ad v [(0, .ref b), (1, .ref (ad 0)), (2, .ref (ad 100)), (3, .ref (ad 119)), (4, .int x4)] 876 [] c s := by
  unfold f_L_law_876 at h
  refine go_aload_n (d_L_law_17 876 rfl) rfl rfl ?_
  refine go_aload_n (d_L_law_17 877 rfl) rfl rfl ?_
  refine go_iload (d_L_law_17 878 rfl) rfl ?_
  refine go_iconst (x := (1 : Int32)) (d_L_law_17 880 rfl) (by decide) ?_
  refine go_iadd (d_L_law_17 881 rfl) ?_
  obtain ⟨g_1, h⟩ := gd_some h
  refine go_sld (d_L_law_17 882 rfl) g_1 ?_
  obtain ⟨r_2, o_3, h⟩ := bd_some h
  obtain ⟨z_4, h⟩ := nt_some h
  refine go_cX (As := [.ref (ad (0)), .int ((xs (x4 + (1 : Int32)).toNatClampNeg))]) (rest := []) (st2 := [.int (r_2.2.1)]) (c2 := c + 2) (s2 := s + 12) rfl rfl rfl rfl (Ca_L_arrive hl o_3)  (d_L_law_17 883 rfl) cw_L_134 w_494 ⟨by decide, by decide⟩ rfl (Nat.le_of_ble_eq_true rfl) ⟨(by omega : c + 2 ≤ 621509), (by omega : s + 12 ≤ 7231577)⟩ (fun _ => ?_) (fun q => absurd z_4 q)
  refine go_istore (lv' := [(0, .ref b), (1, .ref (ad (0))), (2, .ref (ad (100))), (3, .ref (ad (119))), (4, .int x4), (5, .int (r_2.2.1))]) (d_L_law_17 886 rfl) (by decide) rfl ?_
  refine go_aload_n (d_L_law_17 888 rfl) rfl rfl ?_
  refine go_aload_n (d_L_law_17 889 rfl) rfl rfl ?_
  refine go_iload (d_L_law_17 890 rfl) rfl ?_
  refine go_iconst (x := (1 : Int32)) (d_L_law_17 892 rfl) (by decide) ?_
  refine go_iadd (d_L_law_17 893 rfl) ?_
  obtain ⟨g_5, h⟩ := gd_some h
  refine go_sld (d_L_law_17 894 rfl) g_5 ?_
  obtain ⟨r_6, o_7, h⟩ := bd_some h
  obtain ⟨z_8, h⟩ := nt_some h
  refine go_cV (As := [.int ((xs (x4 + (1 : Int32)).toNatClampNeg))]) (rest := []) (st2 := []) (c2 := c + 2) (s2 := s + 12) rfl rfl rfl rfl (Ca_M_arrive hl o_7)  (d_L_law_17 895 rfl) cw_L_136 ⟨w_733, w_734⟩ rfl (by decide) rfl ⟨by decide, by decide⟩ rfl (Nat.le_of_ble_eq_true rfl) ⟨(by omega : c + 2 ≤ 621509), (by omega : s + 12 ≤ 7231577)⟩ (fun _ => ?_) (fun q => absurd z_8 q)
  refine go_aload_n (d_L_law_17 898 rfl) rfl rfl ?_
  obtain ⟨r_9, o_10, h⟩ := bd_some h
  obtain ⟨z_11, h⟩ := nt_some h
  refine go_cV (As := []) (rest := []) (st2 := [.int (r_9.2.1)]) (c2 := c + 2) (s2 := s + 12) rfl rfl rfl rfl (Ca_M_thrown hl o_10)  (d_L_law_17 899 rfl) cw_L_90 ⟨w_631, w_632⟩ rfl (by decide) rfl ⟨by decide, by decide⟩ rfl (Nat.le_of_ble_eq_true rfl) ⟨(by omega : c + 2 ≤ 621509), (by omega : s + 12 ≤ 7231577)⟩ (fun _ => ?_) (fun q => absurd z_11 q)
  refine go_iload (d_L_law_17 902 rfl) rfl ?_
  rcases br_some h with ⟨c_12, h⟩ | ⟨c_12, h⟩
  · refine go_icmp_eq (tgt := 909) (d_L_law_17 904 rfl) (by decide) (fun _ => ?_) (fun q => absurd (of_decide_eq_true c_12) q)
    refine go_goto (tgt := 1228) (d_L_law_17 909 rfl) (by decide) ?_
    refine go_iinc (y := (x4 + 5)) (lv' := [(0, .ref b), (1, .ref (ad (0))), (2, .ref (ad (100))), (3, .ref (ad (119))), (4, .int ((x4 + 5))), (5, .int (r_2.2.1))]) (d_L_law_24 1228 rfl) rfl rfl (by decide) rfl ?_
    refine go_goto (tgt := 23) (d_L_law_24 1231 rfl) (by decide) ?_
    refine go_sub (lv' := [(0, .ref b), (1, .ref (ad (0))), (2, .ref (ad (100))), (3, .ref (ad (119))), (4, .int ((x4 + 5)))]) ⟨rfl, rfl, rfl, rfl, rfl, trivial⟩ ?_
    exact hrec ((x4 + 5)) (r_9.2.2.2) (c + 2) (s + 12) (by omega) h
  · refine go_icmp_eq (tgt := 909) (d_L_law_17 904 rfl) (by decide) (fun q => absurd q (of_decide_eq_false c_12)) (fun _ => ?_)
    refine go_iconst (x := (0 : Int32)) (d_L_law_17 907 rfl) (by decide) ?_
    cases h
def f_L_law_912 (L : Nat) (xs : Nat → Int32) (rec : Int32 → go_V → Option go_R) (x4 : Int32) (v : go_V) : Option go_R := gd (go_in (x4 + (1 : Int32)) L) (gd (go_in (x4 + (2 : Int32)) L) (bd (f_L_needed (xs (x4 + (1 : Int32)).toNatClampNeg) (xs (x4 + (2 : Int32)).toNatClampNeg) v) (fun r_3 => nt r_3 (gd (go_in (x4 + (1 : Int32)) L) (gd (go_in (x4 + (2 : Int32)) L) (bd (f_M_needed (xs (x4 + (1 : Int32)).toNatClampNeg) (xs (x4 + (2 : Int32)).toNatClampNeg) r_3.2.2.2) (fun r_8 => nt r_8 (bd (f_M_thrown r_8.2.2.2) (fun r_11 => nt r_11 (br (decide (r_11.2.1 = r_3.2.1)) (br (decide (r_3.2.1 = 0)) (gd (go_in (0 : Int32) 1) (br (decide ((go_lc (r_11.2.2.2 119 (0 : Int32).toNatClampNeg) r_8.2.1) = 0)) (rec ((x4 + 5)) (r_11.2.2.2)) (none))) (rec ((x4 + 5)) (r_11.2.2.2))) (none)))))))))))
set_option maxHeartbeats 4000000 in
set_option maxRecDepth 100000 in
theorem b_L_law_912 {l : Launch} {G : go_G} {ad : Nat → Nat} {b L : Nat} {xs : Nat → Int32} (hl : l.stackTraces = false) (rec : Int32 → go_V → Option go_R) {r : go_R} {n : Nat} (hrec : ∀ (x4 : Int32) (v : go_V) (c s : Nat), c + 8 * n ≤ 621509 ∧ s + 48 * n ≤ 7231577 → rec x4 v = some r → Go l G M_L_law (go_ExL b L xs) (go_EnL b) ad v [(0, .ref b), (1, .ref (ad 0)), (2, .ref (ad 100)), (3, .ref (ad 119)), (4, .int x4)] 23 [] c s) (x4 : Int32) (v : go_V) (c s : Nat) (hb : c + 8 * (n + 1) ≤ 621509 ∧ s + 48 * (n + 1) ≤ 7231577) (h : f_L_law_912 L xs rec x4 v = some r) : Go l G M_L_law (go_ExL b L xs) (go_EnL b) ad v [(0, .ref b), (1, .ref (ad 0)), (2, .ref (ad 100)), (3, .ref (ad 119)), (4, .int x4)] 912 [] c s := by
  unfold f_L_law_912 at h
  refine go_aload_n (d_L_law_17 912 rfl) rfl rfl ?_
  refine go_aload_n (d_L_law_17 913 rfl) rfl rfl ?_
  refine go_iload (d_L_law_17 914 rfl) rfl ?_
  refine go_iconst (x := (1 : Int32)) (d_L_law_18 916 rfl) (by decide) ?_
  refine go_iadd (d_L_law_18 917 rfl) ?_
  obtain ⟨g_1, h⟩ := gd_some h
  refine go_sld (d_L_law_18 918 rfl) g_1 ?_
  refine go_aload_n (d_L_law_18 919 rfl) rfl rfl ?_
  refine go_iload (d_L_law_18 920 rfl) rfl ?_
  refine go_iconst (x := (2 : Int32)) (d_L_law_18 922 rfl) (by decide) ?_
  refine go_iadd (d_L_law_18 923 rfl) ?_
  obtain ⟨g_2, h⟩ := gd_some h
  refine go_sld (d_L_law_18 924 rfl) g_2 ?_
  refine go_aload_n (d_L_law_18 925 rfl) rfl rfl ?_
  obtain ⟨r_3, o_4, h⟩ := bd_some h
  obtain ⟨z_5, h⟩ := nt_some h
  refine go_cX (As := [.ref (ad (0)), .int ((xs (x4 + (1 : Int32)).toNatClampNeg)), .int ((xs (x4 + (2 : Int32)).toNatClampNeg)), .ref (ad (119))]) (rest := []) (st2 := [.int (r_3.2.1)]) (c2 := c + 3) (s2 := s + 18) rfl rfl rfl rfl (Ca_L_needed hl o_4)  (d_L_law_18 926 rfl) cw_L_137 w_502 ⟨by decide, by decide⟩ rfl (Nat.le_of_ble_eq_true rfl) ⟨(by omega : c + 3 ≤ 621509), (by omega : s + 18 ≤ 7231577)⟩ (fun _ => ?_) (fun q => absurd z_5 q)
  refine go_istore (lv' := [(0, .ref b), (1, .ref (ad (0))), (2, .ref (ad (100))), (3, .ref (ad (119))), (4, .int x4), (5, .int (r_3.2.1))]) (d_L_law_18 929 rfl) (by decide) rfl ?_
  refine go_aload_n (d_L_law_18 931 rfl) rfl rfl ?_
  refine go_aload_n (d_L_law_18 932 rfl) rfl rfl ?_
  refine go_iload (d_L_law_18 933 rfl) rfl ?_
  refine go_iconst (x := (1 : Int32)) (d_L_law_18 935 rfl) (by decide) ?_
  refine go_iadd (d_L_law_18 936 rfl) ?_
  obtain ⟨g_6, h⟩ := gd_some h
  refine go_sld (d_L_law_18 937 rfl) g_6 ?_
  refine go_aload_n (d_L_law_18 938 rfl) rfl rfl ?_
  refine go_iload (d_L_law_18 939 rfl) rfl ?_
  refine go_iconst (x := (2 : Int32)) (d_L_law_18 941 rfl) (by decide) ?_
  refine go_iadd (d_L_law_18 942 rfl) ?_
  obtain ⟨g_7, h⟩ := gd_some h
  refine go_sld (d_L_law_18 943 rfl) g_7 ?_
  obtain ⟨r_8, o_9, h⟩ := bd_some h
  obtain ⟨z_10, h⟩ := nt_some h
  refine go_cV (As := [.int ((xs (x4 + (1 : Int32)).toNatClampNeg)), .int ((xs (x4 + (2 : Int32)).toNatClampNeg))]) (rest := []) (st2 := [.int (r_8.2.1)]) (c2 := c + 3) (s2 := s + 18) rfl rfl rfl rfl (Ca_M_needed hl o_9)  (d_L_law_18 944 rfl) cw_L_139 ⟨w_737, w_738⟩ rfl (by decide) rfl ⟨by decide, by decide⟩ rfl (Nat.le_of_ble_eq_true rfl) ⟨(by omega : c + 3 ≤ 621509), (by omega : s + 18 ≤ 7231577)⟩ (fun _ => ?_) (fun q => absurd z_10 q)
  refine go_istore (lv' := [(0, .ref b), (1, .ref (ad (0))), (2, .ref (ad (100))), (3, .ref (ad (119))), (4, .int x4), (5, .int (r_3.2.1)), (6, .int (r_8.2.1))]) (d_L_law_18 947 rfl) (by decide) rfl ?_
  refine go_aload_n (d_L_law_18 949 rfl) rfl rfl ?_
  obtain ⟨r_11, o_12, h⟩ := bd_some h
  obtain ⟨z_13, h⟩ := nt_some h
  refine go_cV (As := []) (rest := []) (st2 := [.int (r_11.2.1)]) (c2 := c + 3) (s2 := s + 18) rfl rfl rfl rfl (Ca_M_thrown hl o_12)  (d_L_law_18 950 rfl) cw_L_90 ⟨w_631, w_632⟩ rfl (by decide) rfl ⟨by decide, by decide⟩ rfl (Nat.le_of_ble_eq_true rfl) ⟨(by omega : c + 3 ≤ 621509), (by omega : s + 18 ≤ 7231577)⟩ (fun _ => ?_) (fun q => absurd z_13 q)
  refine go_iload (d_L_law_18 953 rfl) rfl ?_
  rcases br_some h with ⟨c_14, h⟩ | ⟨c_14, h⟩
  · refine go_icmp_eq (tgt := 960) (d_L_law_18 955 rfl) (by decide) (fun _ => ?_) (fun q => absurd (of_decide_eq_true c_14) q)
    refine go_iload (d_L_law_19 960 rfl) rfl ?_
    rcases br_some h with ⟨c_15, h⟩ | ⟨c_15, h⟩
    · refine go_if_ne (tgt := 977) (d_L_law_19 962 rfl) (by decide) (fun q => absurd (of_decide_eq_true c_15) q) (fun _ => ?_)
      refine go_aload_n (d_L_law_19 965 rfl) rfl rfl ?_
      refine go_iconst (x := (0 : Int32)) (d_L_law_19 966 rfl) (by decide) ?_
      obtain ⟨g_16, h⟩ := gd_some h
      refine go_lald (d_L_law_19 967 rfl) rfl g_16 ?_
      refine go_iload (d_L_law_19 968 rfl) rfl ?_
      refine go_i2l (d_L_law_19 970 rfl) ?_
      refine go_lcmp (d_L_law_19 971 rfl) ?_
      rcases br_some h with ⟨c_17, h⟩ | ⟨c_17, h⟩
      · refine go_if_eq (tgt := 977) (d_L_law_19 972 rfl) (by decide) (fun _ => ?_) (fun q => absurd (of_decide_eq_true c_17) q)
        refine go_goto (tgt := 1228) (d_L_law_19 977 rfl) (by decide) ?_
        refine go_iinc (y := (x4 + 5)) (lv' := [(0, .ref b), (1, .ref (ad (0))), (2, .ref (ad (100))), (3, .ref (ad (119))), (4, .int ((x4 + 5))), (5, .int (r_3.2.1)), (6, .int (r_8.2.1))]) (d_L_law_24 1228 rfl) rfl rfl (by decide) rfl ?_
        refine go_goto (tgt := 23) (d_L_law_24 1231 rfl) (by decide) ?_
        refine go_sub (lv' := [(0, .ref b), (1, .ref (ad (0))), (2, .ref (ad (100))), (3, .ref (ad (119))), (4, .int ((x4 + 5)))]) ⟨rfl, rfl, rfl, rfl, rfl, trivial⟩ ?_
        exact hrec ((x4 + 5)) (r_11.2.2.2) (c + 3) (s + 18) (by omega) h
      · refine go_if_eq (tgt := 977) (d_L_law_19 972 rfl) (by decide) (fun q => absurd q (of_decide_eq_false c_17)) (fun _ => ?_)
        refine go_iconst (x := (0 : Int32)) (d_L_law_19 975 rfl) (by decide) ?_
        cases h
    · refine go_if_ne (tgt := 977) (d_L_law_19 962 rfl) (by decide) (fun _ => ?_) (fun q => absurd q (of_decide_eq_false c_15))
      refine go_goto (tgt := 1228) (d_L_law_19 977 rfl) (by decide) ?_
      refine go_iinc (y := (x4 + 5)) (lv' := [(0, .ref b), (1, .ref (ad (0))), (2, .ref (ad (100))), (3, .ref (ad (119))), (4, .int ((x4 + 5))), (5, .int (r_3.2.1)), (6, .int (r_8.2.1))]) (d_L_law_24 1228 rfl) rfl rfl (by decide) rfl ?_
      refine go_goto (tgt := 23) (d_L_law_24 1231 rfl) (by decide) ?_
      refine go_sub (lv' := [(0, .ref b), (1, .ref (ad (0))), (2, .ref (ad (100))), (3, .ref (ad (119))), (4, .int ((x4 + 5)))]) ⟨rfl, rfl, rfl, rfl, rfl, trivial⟩ ?_
      exact hrec ((x4 + 5)) (r_11.2.2.2) (c + 3) (s + 18) (by omega) h
  · refine go_icmp_eq (tgt := 960) (d_L_law_18 955 rfl) (by decide) (fun q => absurd q (of_decide_eq_false c_14)) (fun _ => ?_)
    refine go_iconst (x := (0 : Int32)) (d_L_law_18 958 rfl) (by decide) ?_
    cases h
def f_L_law_980 (L : Nat) (xs : Nat → Int32) (rec : Int32 → go_V → Option go_R) (x4 : Int32) (v : go_V) : Option go_R := gd (go_in (x4 + (1 : Int32)) L) (gd (go_in (x4 + (2 : Int32)) L) (bd (f_L_incident (xs (x4 + (1 : Int32)).toNatClampNeg) (xs (x4 + (2 : Int32)).toNatClampNeg) v) (fun r_3 => nt r_3 (gd (go_in (x4 + (1 : Int32)) L) (gd (go_in (x4 + (2 : Int32)) L) (bd (f_M_incident (xs (x4 + (1 : Int32)).toNatClampNeg) (xs (x4 + (2 : Int32)).toNatClampNeg) r_3.2.2.2) (fun r_8 => nt r_8 (bd (f_M_thrown r_8.2.2.2) (fun r_11 => nt r_11 (br (decide (r_11.2.1 = r_3.2.1)) (br (decide (r_3.2.1 = 0)) (gd (go_in (0 : Int32) 1) (br (decide ((go_lc (r_11.2.2.2 119 (0 : Int32).toNatClampNeg) r_8.2.1) = 0)) (rec ((x4 + 5)) (r_11.2.2.2)) (none))) (rec ((x4 + 5)) (r_11.2.2.2))) (none)))))))))))
set_option maxHeartbeats 4000000 in
set_option maxRecDepth 100000 in
theorem b_L_law_980 {l : Launch} {G : go_G} {ad : Nat → Nat} {b L : Nat} {xs : Nat → Int32} (hl : l.stackTraces = false) (rec : Int32 → go_V → Option go_R) {r : go_R} {n : Nat} (hrec : ∀ (x4 : Int32) (v : go_V) (c s : Nat), c + 8 * n ≤ 621509 ∧ s + 48 * n ≤ 7231577 → rec x4 v = some r → Go l G M_L_law (go_ExL b L xs) (go_EnL b) ad v [(0, .ref b), (1, .ref (ad 0)), (2, .ref (ad 100)), (3, .ref (ad 119)), (4, .int x4)] 23 [] c s) (x4 : Int32) (v : go_V) (c s : Nat) (hb : c + 8 * (n + 1) ≤ 621509 ∧ s + 48 * (n + 1) ≤ 7231577) (h : f_L_law_980 L xs rec x4 v = some r) : Go l G M_L_law (go_ExL b L xs) (go_EnL b) ad v [(0, .ref b), (1, .ref (ad 0)), (2, .ref (ad 100)), (3, .ref (ad 119)), (4, .int x4)] 980 [] c s := by
  unfold f_L_law_980 at h
  refine go_aload_n (d_L_law_19 980 rfl) rfl rfl ?_
  refine go_aload_n (d_L_law_19 981 rfl) rfl rfl ?_
  refine go_iload (d_L_law_19 982 rfl) rfl ?_
  refine go_iconst (x := (1 : Int32)) (d_L_law_19 984 rfl) (by decide) ?_
  refine go_iadd (d_L_law_19 985 rfl) ?_
  obtain ⟨g_1, h⟩ := gd_some h
  refine go_sld (d_L_law_19 986 rfl) g_1 ?_
  refine go_aload_n (d_L_law_19 987 rfl) rfl rfl ?_
  refine go_iload (d_L_law_19 988 rfl) rfl ?_
  refine go_iconst (x := (2 : Int32)) (d_L_law_19 990 rfl) (by decide) ?_
  refine go_iadd (d_L_law_19 991 rfl) ?_
  obtain ⟨g_2, h⟩ := gd_some h
  refine go_sld (d_L_law_19 992 rfl) g_2 ?_
  refine go_aload_n (d_L_law_19 993 rfl) rfl rfl ?_
  obtain ⟨r_3, o_4, h⟩ := bd_some h
  obtain ⟨z_5, h⟩ := nt_some h
  refine go_cX (As := [.ref (ad (0)), .int ((xs (x4 + (1 : Int32)).toNatClampNeg)), .int ((xs (x4 + (2 : Int32)).toNatClampNeg)), .ref (ad (119))]) (rest := []) (st2 := [.int (r_3.2.1)]) (c2 := c + 2) (s2 := s + 12) rfl rfl rfl rfl (Ca_L_incident hl o_4)  (d_L_law_19 994 rfl) cw_L_140 w_509 ⟨by decide, by decide⟩ rfl (Nat.le_of_ble_eq_true rfl) ⟨(by omega : c + 2 ≤ 621509), (by omega : s + 12 ≤ 7231577)⟩ (fun _ => ?_) (fun q => absurd z_5 q)
  refine go_istore (lv' := [(0, .ref b), (1, .ref (ad (0))), (2, .ref (ad (100))), (3, .ref (ad (119))), (4, .int x4), (5, .int (r_3.2.1))]) (d_L_law_19 997 rfl) (by decide) rfl ?_
  refine go_aload_n (d_L_law_19 999 rfl) rfl rfl ?_
  refine go_aload_n (d_L_law_19 1000 rfl) rfl rfl ?_
  refine go_iload (d_L_law_19 1001 rfl) rfl ?_
  refine go_iconst (x := (1 : Int32)) (d_L_law_19 1003 rfl) (by decide) ?_
  refine go_iadd (d_L_law_20 1004 rfl) ?_
  obtain ⟨g_6, h⟩ := gd_some h
  refine go_sld (d_L_law_20 1005 rfl) g_6 ?_
  refine go_aload_n (d_L_law_20 1006 rfl) rfl rfl ?_
  refine go_iload (d_L_law_20 1007 rfl) rfl ?_
  refine go_iconst (x := (2 : Int32)) (d_L_law_20 1009 rfl) (by decide) ?_
  refine go_iadd (d_L_law_20 1010 rfl) ?_
  obtain ⟨g_7, h⟩ := gd_some h
  refine go_sld (d_L_law_20 1011 rfl) g_7 ?_
  obtain ⟨r_8, o_9, h⟩ := bd_some h
  obtain ⟨z_10, h⟩ := nt_some h
  refine go_cV (As := [.int ((xs (x4 + (1 : Int32)).toNatClampNeg)), .int ((xs (x4 + (2 : Int32)).toNatClampNeg))]) (rest := []) (st2 := [.int (r_8.2.1)]) (c2 := c + 2) (s2 := s + 12) rfl rfl rfl rfl (Ca_M_incident hl o_9)  (d_L_law_20 1012 rfl) cw_L_142 ⟨w_741, w_742⟩ rfl (by decide) rfl ⟨by decide, by decide⟩ rfl (Nat.le_of_ble_eq_true rfl) ⟨(by omega : c + 2 ≤ 621509), (by omega : s + 12 ≤ 7231577)⟩ (fun _ => ?_) (fun q => absurd z_10 q)
  refine go_istore (lv' := [(0, .ref b), (1, .ref (ad (0))), (2, .ref (ad (100))), (3, .ref (ad (119))), (4, .int x4), (5, .int (r_3.2.1)), (6, .int (r_8.2.1))]) (d_L_law_20 1015 rfl) (by decide) rfl ?_
  refine go_aload_n (d_L_law_20 1017 rfl) rfl rfl ?_
  obtain ⟨r_11, o_12, h⟩ := bd_some h
  obtain ⟨z_13, h⟩ := nt_some h
  refine go_cV (As := []) (rest := []) (st2 := [.int (r_11.2.1)]) (c2 := c + 2) (s2 := s + 12) rfl rfl rfl rfl (Ca_M_thrown hl o_12)  (d_L_law_20 1018 rfl) cw_L_90 ⟨w_631, w_632⟩ rfl (by decide) rfl ⟨by decide, by decide⟩ rfl (Nat.le_of_ble_eq_true rfl) ⟨(by omega : c + 2 ≤ 621509), (by omega : s + 12 ≤ 7231577)⟩ (fun _ => ?_) (fun q => absurd z_13 q)
  refine go_iload (d_L_law_20 1021 rfl) rfl ?_
  rcases br_some h with ⟨c_14, h⟩ | ⟨c_14, h⟩
  · refine go_icmp_eq (tgt := 1028) (d_L_law_20 1023 rfl) (by decide) (fun _ => ?_) (fun q => absurd (of_decide_eq_true c_14) q)
    refine go_iload (d_L_law_20 1028 rfl) rfl ?_
    rcases br_some h with ⟨c_15, h⟩ | ⟨c_15, h⟩
    · refine go_if_ne (tgt := 1045) (d_L_law_20 1030 rfl) (by decide) (fun q => absurd (of_decide_eq_true c_15) q) (fun _ => ?_)
      refine go_aload_n (d_L_law_20 1033 rfl) rfl rfl ?_
      refine go_iconst (x := (0 : Int32)) (d_L_law_20 1034 rfl) (by decide) ?_
      obtain ⟨g_16, h⟩ := gd_some h
      refine go_lald (d_L_law_20 1035 rfl) rfl g_16 ?_
      refine go_iload (d_L_law_20 1036 rfl) rfl ?_
      refine go_i2l (d_L_law_20 1038 rfl) ?_
      refine go_lcmp (d_L_law_20 1039 rfl) ?_
      rcases br_some h with ⟨c_17, h⟩ | ⟨c_17, h⟩
      · refine go_if_eq (tgt := 1045) (d_L_law_20 1040 rfl) (by decide) (fun _ => ?_) (fun q => absurd (of_decide_eq_true c_17) q)
        refine go_goto (tgt := 1228) (d_L_law_20 1045 rfl) (by decide) ?_
        refine go_iinc (y := (x4 + 5)) (lv' := [(0, .ref b), (1, .ref (ad (0))), (2, .ref (ad (100))), (3, .ref (ad (119))), (4, .int ((x4 + 5))), (5, .int (r_3.2.1)), (6, .int (r_8.2.1))]) (d_L_law_24 1228 rfl) rfl rfl (by decide) rfl ?_
        refine go_goto (tgt := 23) (d_L_law_24 1231 rfl) (by decide) ?_
        refine go_sub (lv' := [(0, .ref b), (1, .ref (ad (0))), (2, .ref (ad (100))), (3, .ref (ad (119))), (4, .int ((x4 + 5)))]) ⟨rfl, rfl, rfl, rfl, rfl, trivial⟩ ?_
        exact hrec ((x4 + 5)) (r_11.2.2.2) (c + 2) (s + 12) (by omega) h
      · refine go_if_eq (tgt := 1045) (d_L_law_20 1040 rfl) (by decide) (fun q => absurd q (of_decide_eq_false c_17)) (fun _ => ?_)
        refine go_iconst (x := (0 : Int32)) (d_L_law_20 1043 rfl) (by decide) ?_
        cases h
    · refine go_if_ne (tgt := 1045) (d_L_law_20 1030 rfl) (by decide) (fun _ => ?_) (fun q => absurd q (of_decide_eq_false c_15))
      refine go_goto (tgt := 1228) (d_L_law_20 1045 rfl) (by decide) ?_
      refine go_iinc (y := (x4 + 5)) (lv' := [(0, .ref b), (1, .ref (ad (0))), (2, .ref (ad (100))), (3, .ref (ad (119))), (4, .int ((x4 + 5))), (5, .int (r_3.2.1)), (6, .int (r_8.2.1))]) (d_L_law_24 1228 rfl) rfl rfl (by decide) rfl ?_
      refine go_goto (tgt := 23) (d_L_law_24 1231 rfl) (by decide) ?_
      refine go_sub (lv' := [(0, .ref b), (1, .ref (ad (0))), (2, .ref (ad (100))), (3, .ref (ad (119))), (4, .int ((x4 + 5)))]) ⟨rfl, rfl, rfl, rfl, rfl, trivial⟩ ?_
      exact hrec ((x4 + 5)) (r_11.2.2.2) (c + 2) (s + 12) (by omega) h
  · refine go_icmp_eq (tgt := 1028) (d_L_law_20 1023 rfl) (by decide) (fun q => absurd q (of_decide_eq_false c_14)) (fun _ => ?_)
    refine go_iconst (x := (0 : Int32)) (d_L_law_20 1026 rfl) (by decide) ?_
    cases h
def f_L_law_1048 (L : Nat) (xs : Nat → Int32) (rec : Int32 → go_V → Option go_R) (x4 : Int32) (v : go_V) : Option go_R := gd (go_in (x4 + (1 : Int32)) L) (gd (go_in (x4 + (2 : Int32)) L) (bd (f_L_unitAt (xs (x4 + (1 : Int32)).toNatClampNeg) (xs (x4 + (2 : Int32)).toNatClampNeg) v) (fun r_3 => nt r_3 (gd (go_in (x4 + (1 : Int32)) L) (gd (go_in (x4 + (2 : Int32)) L) (bd (f_M_unitAt (xs (x4 + (1 : Int32)).toNatClampNeg) (xs (x4 + (2 : Int32)).toNatClampNeg) r_3.2.2.2) (fun r_8 => nt r_8 (bd (f_M_thrown r_8.2.2.2) (fun r_11 => nt r_11 (br (decide (r_11.2.1 = r_3.2.1)) (br (decide (r_3.2.1 = 0)) (gd (go_in (0 : Int32) 1) (br (decide ((go_lc (r_11.2.2.2 119 (0 : Int32).toNatClampNeg) r_8.2.1) = 0)) (rec ((x4 + 5)) (r_11.2.2.2)) (none))) (rec ((x4 + 5)) (r_11.2.2.2))) (none)))))))))))
set_option maxHeartbeats 4000000 in
set_option maxRecDepth 100000 in
theorem b_L_law_1048 {l : Launch} {G : go_G} {ad : Nat → Nat} {b L : Nat} {xs : Nat → Int32} (hl : l.stackTraces = false) (rec : Int32 → go_V → Option go_R) {r : go_R} {n : Nat} (hrec : ∀ (x4 : Int32) (v : go_V) (c s : Nat), c + 8 * n ≤ 621509 ∧ s + 48 * n ≤ 7231577 → rec x4 v = some r → Go l G M_L_law (go_ExL b L xs) (go_EnL b) ad v [(0, .ref b), (1, .ref (ad 0)), (2, .ref (ad 100)), (3, .ref (ad 119)), (4, .int x4)] 23 [] c s) (x4 : Int32) (v : go_V) (c s : Nat) (hb : c + 8 * (n + 1) ≤ 621509 ∧ s + 48 * (n + 1) ≤ 7231577) (h : f_L_law_1048 L xs rec x4 v = some r) : Go l G M_L_law (go_ExL b L xs) (go_EnL b) ad v [(0, .ref b), (1, .ref (ad 0)), (2, .ref (ad 100)), (3, .ref (ad 119)), (4, .int x4)] 1048 [] c s := by
  unfold f_L_law_1048 at h
  refine go_aload_n (d_L_law_20 1048 rfl) rfl rfl ?_
  refine go_aload_n (d_L_law_20 1049 rfl) rfl rfl ?_
  refine go_iload (d_L_law_20 1050 rfl) rfl ?_
  refine go_iconst (x := (1 : Int32)) (d_L_law_21 1052 rfl) (by decide) ?_
  refine go_iadd (d_L_law_21 1053 rfl) ?_
  obtain ⟨g_1, h⟩ := gd_some h
  refine go_sld (d_L_law_21 1054 rfl) g_1 ?_
  refine go_aload_n (d_L_law_21 1055 rfl) rfl rfl ?_
  refine go_iload (d_L_law_21 1056 rfl) rfl ?_
  refine go_iconst (x := (2 : Int32)) (d_L_law_21 1058 rfl) (by decide) ?_
  refine go_iadd (d_L_law_21 1059 rfl) ?_
  obtain ⟨g_2, h⟩ := gd_some h
  refine go_sld (d_L_law_21 1060 rfl) g_2 ?_
  refine go_aload_n (d_L_law_21 1061 rfl) rfl rfl ?_
  obtain ⟨r_3, o_4, h⟩ := bd_some h
  obtain ⟨z_5, h⟩ := nt_some h
  refine go_cX (As := [.ref (ad (0)), .int ((xs (x4 + (1 : Int32)).toNatClampNeg)), .int ((xs (x4 + (2 : Int32)).toNatClampNeg)), .ref (ad (119))]) (rest := []) (st2 := [.int (r_3.2.1)]) (c2 := c + 2) (s2 := s + 12) rfl rfl rfl rfl (Ca_L_unitAt hl o_4)  (d_L_law_21 1062 rfl) cw_L_143 w_517 ⟨by decide, by decide⟩ rfl (Nat.le_of_ble_eq_true rfl) ⟨(by omega : c + 2 ≤ 621509), (by omega : s + 12 ≤ 7231577)⟩ (fun _ => ?_) (fun q => absurd z_5 q)
  refine go_istore (lv' := [(0, .ref b), (1, .ref (ad (0))), (2, .ref (ad (100))), (3, .ref (ad (119))), (4, .int x4), (5, .int (r_3.2.1))]) (d_L_law_21 1065 rfl) (by decide) rfl ?_
  refine go_aload_n (d_L_law_21 1067 rfl) rfl rfl ?_
  refine go_aload_n (d_L_law_21 1068 rfl) rfl rfl ?_
  refine go_iload (d_L_law_21 1069 rfl) rfl ?_
  refine go_iconst (x := (1 : Int32)) (d_L_law_21 1071 rfl) (by decide) ?_
  refine go_iadd (d_L_law_21 1072 rfl) ?_
  obtain ⟨g_6, h⟩ := gd_some h
  refine go_sld (d_L_law_21 1073 rfl) g_6 ?_
  refine go_aload_n (d_L_law_21 1074 rfl) rfl rfl ?_
  refine go_iload (d_L_law_21 1075 rfl) rfl ?_
  refine go_iconst (x := (2 : Int32)) (d_L_law_21 1077 rfl) (by decide) ?_
  refine go_iadd (d_L_law_21 1078 rfl) ?_
  obtain ⟨g_7, h⟩ := gd_some h
  refine go_sld (d_L_law_21 1079 rfl) g_7 ?_
  obtain ⟨r_8, o_9, h⟩ := bd_some h
  obtain ⟨z_10, h⟩ := nt_some h
  refine go_cV (As := [.int ((xs (x4 + (1 : Int32)).toNatClampNeg)), .int ((xs (x4 + (2 : Int32)).toNatClampNeg))]) (rest := []) (st2 := [.int (r_8.2.1)]) (c2 := c + 2) (s2 := s + 12) rfl rfl rfl rfl (Ca_M_unitAt hl o_9)  (d_L_law_21 1080 rfl) cw_L_145 ⟨w_745, w_746⟩ rfl (by decide) rfl ⟨by decide, by decide⟩ rfl (Nat.le_of_ble_eq_true rfl) ⟨(by omega : c + 2 ≤ 621509), (by omega : s + 12 ≤ 7231577)⟩ (fun _ => ?_) (fun q => absurd z_10 q)
  refine go_istore (lv' := [(0, .ref b), (1, .ref (ad (0))), (2, .ref (ad (100))), (3, .ref (ad (119))), (4, .int x4), (5, .int (r_3.2.1)), (6, .int (r_8.2.1))]) (d_L_law_21 1083 rfl) (by decide) rfl ?_
  refine go_aload_n (d_L_law_21 1085 rfl) rfl rfl ?_
  obtain ⟨r_11, o_12, h⟩ := bd_some h
  obtain ⟨z_13, h⟩ := nt_some h
  refine go_cV (As := []) (rest := []) (st2 := [.int (r_11.2.1)]) (c2 := c + 2) (s2 := s + 12) rfl rfl rfl rfl (Ca_M_thrown hl o_12)  (d_L_law_21 1086 rfl) cw_L_90 ⟨w_631, w_632⟩ rfl (by decide) rfl ⟨by decide, by decide⟩ rfl (Nat.le_of_ble_eq_true rfl) ⟨(by omega : c + 2 ≤ 621509), (by omega : s + 12 ≤ 7231577)⟩ (fun _ => ?_) (fun q => absurd z_13 q)
  refine go_iload (d_L_law_21 1089 rfl) rfl ?_
  rcases br_some h with ⟨c_14, h⟩ | ⟨c_14, h⟩
  · refine go_icmp_eq (tgt := 1096) (d_L_law_21 1091 rfl) (by decide) (fun _ => ?_) (fun q => absurd (of_decide_eq_true c_14) q)
    refine go_iload (d_L_law_22 1096 rfl) rfl ?_
    rcases br_some h with ⟨c_15, h⟩ | ⟨c_15, h⟩
    · refine go_if_ne (tgt := 1113) (d_L_law_22 1098 rfl) (by decide) (fun q => absurd (of_decide_eq_true c_15) q) (fun _ => ?_)
      refine go_aload_n (d_L_law_22 1101 rfl) rfl rfl ?_
      refine go_iconst (x := (0 : Int32)) (d_L_law_22 1102 rfl) (by decide) ?_
      obtain ⟨g_16, h⟩ := gd_some h
      refine go_lald (d_L_law_22 1103 rfl) rfl g_16 ?_
      refine go_iload (d_L_law_22 1104 rfl) rfl ?_
      refine go_i2l (d_L_law_22 1106 rfl) ?_
      refine go_lcmp (d_L_law_22 1107 rfl) ?_
      rcases br_some h with ⟨c_17, h⟩ | ⟨c_17, h⟩
      · refine go_if_eq (tgt := 1113) (d_L_law_22 1108 rfl) (by decide) (fun _ => ?_) (fun q => absurd (of_decide_eq_true c_17) q)
        refine go_goto (tgt := 1228) (d_L_law_22 1113 rfl) (by decide) ?_
        refine go_iinc (y := (x4 + 5)) (lv' := [(0, .ref b), (1, .ref (ad (0))), (2, .ref (ad (100))), (3, .ref (ad (119))), (4, .int ((x4 + 5))), (5, .int (r_3.2.1)), (6, .int (r_8.2.1))]) (d_L_law_24 1228 rfl) rfl rfl (by decide) rfl ?_
        refine go_goto (tgt := 23) (d_L_law_24 1231 rfl) (by decide) ?_
        refine go_sub (lv' := [(0, .ref b), (1, .ref (ad (0))), (2, .ref (ad (100))), (3, .ref (ad (119))), (4, .int ((x4 + 5)))]) ⟨rfl, rfl, rfl, rfl, rfl, trivial⟩ ?_
        exact hrec ((x4 + 5)) (r_11.2.2.2) (c + 2) (s + 12) (by omega) h
      · refine go_if_eq (tgt := 1113) (d_L_law_22 1108 rfl) (by decide) (fun q => absurd q (of_decide_eq_false c_17)) (fun _ => ?_)
        refine go_iconst (x := (0 : Int32)) (d_L_law_22 1111 rfl) (by decide) ?_
        cases h
    · refine go_if_ne (tgt := 1113) (d_L_law_22 1098 rfl) (by decide) (fun _ => ?_) (fun q => absurd q (of_decide_eq_false c_15))
      refine go_goto (tgt := 1228) (d_L_law_22 1113 rfl) (by decide) ?_
      refine go_iinc (y := (x4 + 5)) (lv' := [(0, .ref b), (1, .ref (ad (0))), (2, .ref (ad (100))), (3, .ref (ad (119))), (4, .int ((x4 + 5))), (5, .int (r_3.2.1)), (6, .int (r_8.2.1))]) (d_L_law_24 1228 rfl) rfl rfl (by decide) rfl ?_
      refine go_goto (tgt := 23) (d_L_law_24 1231 rfl) (by decide) ?_
      refine go_sub (lv' := [(0, .ref b), (1, .ref (ad (0))), (2, .ref (ad (100))), (3, .ref (ad (119))), (4, .int ((x4 + 5)))]) ⟨rfl, rfl, rfl, rfl, rfl, trivial⟩ ?_
      exact hrec ((x4 + 5)) (r_11.2.2.2) (c + 2) (s + 12) (by omega) h
  · refine go_icmp_eq (tgt := 1096) (d_L_law_21 1091 rfl) (by decide) (fun q => absurd q (of_decide_eq_false c_14)) (fun _ => ?_)
    refine go_iconst (x := (0 : Int32)) (d_L_law_21 1094 rfl) (by decide) ?_
    cases h
def f_L_law_1116 (L : Nat) (xs : Nat → Int32) (rec : Int32 → go_V → Option go_R) (x4 : Int32) (v : go_V) : Option go_R := gd (go_in (x4 + (1 : Int32)) L) (bd (f_L_acted (xs (x4 + (1 : Int32)).toNatClampNeg) v) (fun r_2 => nt r_2 (gd (go_in (x4 + (1 : Int32)) L) (bd (f_M_acted (xs (x4 + (1 : Int32)).toNatClampNeg) r_2.2.2.2) (fun r_6 => nt r_6 (bd (f_M_thrown r_6.2.2.2) (fun r_9 => nt r_9 (br (decide (r_9.2.1 = r_2.2.1)) (br (decide (r_2.2.1 = 0)) (gd (go_in (0 : Int32) 1) (br (decide ((go_lc (r_9.2.2.2 119 (0 : Int32).toNatClampNeg) r_6.2.1) = 0)) (rec ((x4 + 5)) (r_9.2.2.2)) (none))) (rec ((x4 + 5)) (r_9.2.2.2))) (none)))))))))
set_option maxHeartbeats 4000000 in
set_option maxRecDepth 100000 in
theorem b_L_law_1116 {l : Launch} {G : go_G} {ad : Nat → Nat} {b L : Nat} {xs : Nat → Int32} (hl : l.stackTraces = false) (rec : Int32 → go_V → Option go_R) {r : go_R} {n : Nat} (hrec : ∀ (x4 : Int32) (v : go_V) (c s : Nat), c + 8 * n ≤ 621509 ∧ s + 48 * n ≤ 7231577 → rec x4 v = some r → Go l G M_L_law (go_ExL b L xs) (go_EnL b) ad v [(0, .ref b), (1, .ref (ad 0)), (2, .ref (ad 100)), (3, .ref (ad 119)), (4, .int x4)] 23 [] c s) (x4 : Int32) (v : go_V) (c s : Nat) (hb : c + 8 * (n + 1) ≤ 621509 ∧ s + 48 * (n + 1) ≤ 7231577) (h : f_L_law_1116 L xs rec x4 v = some r) : Go l G M_L_law (go_ExL b L xs) (go_EnL b) ad v [(0, .ref b), (1, .ref (ad 0)), (2, .ref (ad 100)), (3, .ref (ad 119)), (4, .int x4)] 1116 [] c s := by
  unfold f_L_law_1116 at h
  refine go_aload_n (d_L_law_22 1116 rfl) rfl rfl ?_
  refine go_aload_n (d_L_law_22 1117 rfl) rfl rfl ?_
  refine go_iload (d_L_law_22 1118 rfl) rfl ?_
  refine go_iconst (x := (1 : Int32)) (d_L_law_22 1120 rfl) (by decide) ?_
  refine go_iadd (d_L_law_22 1121 rfl) ?_
  obtain ⟨g_1, h⟩ := gd_some h
  refine go_sld (d_L_law_22 1122 rfl) g_1 ?_
  refine go_aload_n (d_L_law_22 1123 rfl) rfl rfl ?_
  obtain ⟨r_2, o_3, h⟩ := bd_some h
  obtain ⟨z_4, h⟩ := nt_some h
  refine go_cX (As := [.ref (ad (0)), .int ((xs (x4 + (1 : Int32)).toNatClampNeg)), .ref (ad (119))]) (rest := []) (st2 := [.int (r_2.2.1)]) (c2 := c + 1) (s2 := s + 6) rfl rfl rfl rfl (Ca_L_acted hl o_3)  (d_L_law_22 1124 rfl) cw_L_146 w_525 ⟨by decide, by decide⟩ rfl (Nat.le_of_ble_eq_true rfl) ⟨(by omega : c + 1 ≤ 621509), (by omega : s + 6 ≤ 7231577)⟩ (fun _ => ?_) (fun q => absurd z_4 q)
  refine go_istore (lv' := [(0, .ref b), (1, .ref (ad (0))), (2, .ref (ad (100))), (3, .ref (ad (119))), (4, .int x4), (5, .int (r_2.2.1))]) (d_L_law_22 1127 rfl) (by decide) rfl ?_
  refine go_aload_n (d_L_law_22 1129 rfl) rfl rfl ?_
  refine go_aload_n (d_L_law_22 1130 rfl) rfl rfl ?_
  refine go_iload (d_L_law_22 1131 rfl) rfl ?_
  refine go_iconst (x := (1 : Int32)) (d_L_law_22 1133 rfl) (by decide) ?_
  refine go_iadd (d_L_law_22 1134 rfl) ?_
  obtain ⟨g_5, h⟩ := gd_some h
  refine go_sld (d_L_law_22 1135 rfl) g_5 ?_
  obtain ⟨r_6, o_7, h⟩ := bd_some h
  obtain ⟨z_8, h⟩ := nt_some h
  refine go_cV (As := [.int ((xs (x4 + (1 : Int32)).toNatClampNeg))]) (rest := []) (st2 := [.int (r_6.2.1)]) (c2 := c + 1) (s2 := s + 6) rfl rfl rfl rfl (Ca_M_acted hl o_7)  (d_L_law_22 1136 rfl) cw_L_148 ⟨w_749, w_750⟩ rfl (by decide) rfl ⟨by decide, by decide⟩ rfl (Nat.le_of_ble_eq_true rfl) ⟨(by omega : c + 1 ≤ 621509), (by omega : s + 6 ≤ 7231577)⟩ (fun _ => ?_) (fun q => absurd z_8 q)
  refine go_istore (lv' := [(0, .ref b), (1, .ref (ad (0))), (2, .ref (ad (100))), (3, .ref (ad (119))), (4, .int x4), (5, .int (r_2.2.1)), (6, .int (r_6.2.1))]) (d_L_law_22 1139 rfl) (by decide) rfl ?_
  refine go_aload_n (d_L_law_22 1141 rfl) rfl rfl ?_
  obtain ⟨r_9, o_10, h⟩ := bd_some h
  obtain ⟨z_11, h⟩ := nt_some h
  refine go_cV (As := []) (rest := []) (st2 := [.int (r_9.2.1)]) (c2 := c + 1) (s2 := s + 6) rfl rfl rfl rfl (Ca_M_thrown hl o_10)  (d_L_law_23 1142 rfl) cw_L_90 ⟨w_631, w_632⟩ rfl (by decide) rfl ⟨by decide, by decide⟩ rfl (Nat.le_of_ble_eq_true rfl) ⟨(by omega : c + 1 ≤ 621509), (by omega : s + 6 ≤ 7231577)⟩ (fun _ => ?_) (fun q => absurd z_11 q)
  refine go_iload (d_L_law_23 1145 rfl) rfl ?_
  rcases br_some h with ⟨c_12, h⟩ | ⟨c_12, h⟩
  · refine go_icmp_eq (tgt := 1152) (d_L_law_23 1147 rfl) (by decide) (fun _ => ?_) (fun q => absurd (of_decide_eq_true c_12) q)
    refine go_iload (d_L_law_23 1152 rfl) rfl ?_
    rcases br_some h with ⟨c_13, h⟩ | ⟨c_13, h⟩
    · refine go_if_ne (tgt := 1169) (d_L_law_23 1154 rfl) (by decide) (fun q => absurd (of_decide_eq_true c_13) q) (fun _ => ?_)
      refine go_aload_n (d_L_law_23 1157 rfl) rfl rfl ?_
      refine go_iconst (x := (0 : Int32)) (d_L_law_23 1158 rfl) (by decide) ?_
      obtain ⟨g_14, h⟩ := gd_some h
      refine go_lald (d_L_law_23 1159 rfl) rfl g_14 ?_
      refine go_iload (d_L_law_23 1160 rfl) rfl ?_
      refine go_i2l (d_L_law_23 1162 rfl) ?_
      refine go_lcmp (d_L_law_23 1163 rfl) ?_
      rcases br_some h with ⟨c_15, h⟩ | ⟨c_15, h⟩
      · refine go_if_eq (tgt := 1169) (d_L_law_23 1164 rfl) (by decide) (fun _ => ?_) (fun q => absurd (of_decide_eq_true c_15) q)
        refine go_goto (tgt := 1228) (d_L_law_23 1169 rfl) (by decide) ?_
        refine go_iinc (y := (x4 + 5)) (lv' := [(0, .ref b), (1, .ref (ad (0))), (2, .ref (ad (100))), (3, .ref (ad (119))), (4, .int ((x4 + 5))), (5, .int (r_2.2.1)), (6, .int (r_6.2.1))]) (d_L_law_24 1228 rfl) rfl rfl (by decide) rfl ?_
        refine go_goto (tgt := 23) (d_L_law_24 1231 rfl) (by decide) ?_
        refine go_sub (lv' := [(0, .ref b), (1, .ref (ad (0))), (2, .ref (ad (100))), (3, .ref (ad (119))), (4, .int ((x4 + 5)))]) ⟨rfl, rfl, rfl, rfl, rfl, trivial⟩ ?_
        exact hrec ((x4 + 5)) (r_9.2.2.2) (c + 1) (s + 6) (by omega) h
      · refine go_if_eq (tgt := 1169) (d_L_law_23 1164 rfl) (by decide) (fun q => absurd q (of_decide_eq_false c_15)) (fun _ => ?_)
        refine go_iconst (x := (0 : Int32)) (d_L_law_23 1167 rfl) (by decide) ?_
        cases h
    · refine go_if_ne (tgt := 1169) (d_L_law_23 1154 rfl) (by decide) (fun _ => ?_) (fun q => absurd q (of_decide_eq_false c_13))
      refine go_goto (tgt := 1228) (d_L_law_23 1169 rfl) (by decide) ?_
      refine go_iinc (y := (x4 + 5)) (lv' := [(0, .ref b), (1, .ref (ad (0))), (2, .ref (ad (100))), (3, .ref (ad (119))), (4, .int ((x4 + 5))), (5, .int (r_2.2.1)), (6, .int (r_6.2.1))]) (d_L_law_24 1228 rfl) rfl rfl (by decide) rfl ?_
      refine go_goto (tgt := 23) (d_L_law_24 1231 rfl) (by decide) ?_
      refine go_sub (lv' := [(0, .ref b), (1, .ref (ad (0))), (2, .ref (ad (100))), (3, .ref (ad (119))), (4, .int ((x4 + 5)))]) ⟨rfl, rfl, rfl, rfl, rfl, trivial⟩ ?_
      exact hrec ((x4 + 5)) (r_9.2.2.2) (c + 1) (s + 6) (by omega) h
  · refine go_icmp_eq (tgt := 1152) (d_L_law_23 1147 rfl) (by decide) (fun q => absurd q (of_decide_eq_false c_12)) (fun _ => ?_)
    refine go_iconst (x := (0 : Int32)) (d_L_law_23 1150 rfl) (by decide) ?_
    cases h
def f_L_law_1172 (L : Nat) (xs : Nat → Int32) (rec : Int32 → go_V → Option go_R) (x4 : Int32) (v : go_V) : Option go_R := gd (go_in (x4 + (1 : Int32)) L) (bd (f_L_count (xs (x4 + (1 : Int32)).toNatClampNeg) v) (fun r_2 => nt r_2 (gd (go_in (x4 + (1 : Int32)) L) (bd (f_M_count (xs (x4 + (1 : Int32)).toNatClampNeg) r_2.2.2.2) (fun r_6 => nt r_6 (bd (f_M_thrown r_6.2.2.2) (fun r_9 => nt r_9 (br (decide (r_9.2.1 = r_2.2.1)) (br (decide (r_2.2.1 = 0)) (gd (go_in (0 : Int32) 1) (br (decide ((go_lc (r_9.2.2.2 119 (0 : Int32).toNatClampNeg) r_6.2.1) = 0)) (rec ((x4 + 5)) (r_9.2.2.2)) (none))) (rec ((x4 + 5)) (r_9.2.2.2))) (none)))))))))
set_option maxHeartbeats 4000000 in
set_option maxRecDepth 100000 in
theorem b_L_law_1172 {l : Launch} {G : go_G} {ad : Nat → Nat} {b L : Nat} {xs : Nat → Int32} (hl : l.stackTraces = false) (rec : Int32 → go_V → Option go_R) {r : go_R} {n : Nat} (hrec : ∀ (x4 : Int32) (v : go_V) (c s : Nat), c + 8 * n ≤ 621509 ∧ s + 48 * n ≤ 7231577 → rec x4 v = some r → Go l G M_L_law (go_ExL b L xs) (go_EnL b) ad v [(0, .ref b), (1, .ref (ad 0)), (2, .ref (ad 100)), (3, .ref (ad 119)), (4, .int x4)] 23 [] c s) (x4 : Int32) (v : go_V) (c s : Nat) (hb : c + 8 * (n + 1) ≤ 621509 ∧ s + 48 * (n + 1) ≤ 7231577) (h : f_L_law_1172 L xs rec x4 v = some r) : Go l G M_L_law (go_ExL b L xs) (go_EnL b) ad v [(0, .ref b), (1, .ref (ad 0)), (2, .ref (ad 100)), (3, .ref (ad 119)), (4, .int x4)] 1172 [] c s := by
  unfold f_L_law_1172 at h
  refine go_aload_n (d_L_law_23 1172 rfl) rfl rfl ?_
  refine go_aload_n (d_L_law_23 1173 rfl) rfl rfl ?_
  refine go_iload (d_L_law_23 1174 rfl) rfl ?_
  refine go_iconst (x := (1 : Int32)) (d_L_law_23 1176 rfl) (by decide) ?_
  refine go_iadd (d_L_law_23 1177 rfl) ?_
  obtain ⟨g_1, h⟩ := gd_some h
  refine go_sld (d_L_law_23 1178 rfl) g_1 ?_
  refine go_aload_n (d_L_law_23 1179 rfl) rfl rfl ?_
  obtain ⟨r_2, o_3, h⟩ := bd_some h
  obtain ⟨z_4, h⟩ := nt_some h
  refine go_cX (As := [.ref (ad (0)), .int ((xs (x4 + (1 : Int32)).toNatClampNeg)), .ref (ad (119))]) (rest := []) (st2 := [.int (r_2.2.1)]) (c2 := c + 1) (s2 := s + 6) rfl rfl rfl rfl (Ca_L_count hl o_3)  (d_L_law_23 1180 rfl) cw_L_149 w_533 ⟨by decide, by decide⟩ rfl (Nat.le_of_ble_eq_true rfl) ⟨(by omega : c + 1 ≤ 621509), (by omega : s + 6 ≤ 7231577)⟩ (fun _ => ?_) (fun q => absurd z_4 q)
  refine go_istore (lv' := [(0, .ref b), (1, .ref (ad (0))), (2, .ref (ad (100))), (3, .ref (ad (119))), (4, .int x4), (5, .int (r_2.2.1))]) (d_L_law_23 1183 rfl) (by decide) rfl ?_
  refine go_aload_n (d_L_law_23 1185 rfl) rfl rfl ?_
  refine go_aload_n (d_L_law_23 1186 rfl) rfl rfl ?_
  refine go_iload (d_L_law_23 1187 rfl) rfl ?_
  refine go_iconst (x := (1 : Int32)) (d_L_law_23 1189 rfl) (by decide) ?_
  refine go_iadd (d_L_law_24 1190 rfl) ?_
  obtain ⟨g_5, h⟩ := gd_some h
  refine go_sld (d_L_law_24 1191 rfl) g_5 ?_
  obtain ⟨r_6, o_7, h⟩ := bd_some h
  obtain ⟨z_8, h⟩ := nt_some h
  refine go_cV (As := [.int ((xs (x4 + (1 : Int32)).toNatClampNeg))]) (rest := []) (st2 := [.int (r_6.2.1)]) (c2 := c + 1) (s2 := s + 6) rfl rfl rfl rfl (Ca_M_count hl o_7)  (d_L_law_24 1192 rfl) cw_L_151 ⟨w_753, w_754⟩ rfl (by decide) rfl ⟨by decide, by decide⟩ rfl (Nat.le_of_ble_eq_true rfl) ⟨(by omega : c + 1 ≤ 621509), (by omega : s + 6 ≤ 7231577)⟩ (fun _ => ?_) (fun q => absurd z_8 q)
  refine go_istore (lv' := [(0, .ref b), (1, .ref (ad (0))), (2, .ref (ad (100))), (3, .ref (ad (119))), (4, .int x4), (5, .int (r_2.2.1)), (6, .int (r_6.2.1))]) (d_L_law_24 1195 rfl) (by decide) rfl ?_
  refine go_aload_n (d_L_law_24 1197 rfl) rfl rfl ?_
  obtain ⟨r_9, o_10, h⟩ := bd_some h
  obtain ⟨z_11, h⟩ := nt_some h
  refine go_cV (As := []) (rest := []) (st2 := [.int (r_9.2.1)]) (c2 := c + 1) (s2 := s + 6) rfl rfl rfl rfl (Ca_M_thrown hl o_10)  (d_L_law_24 1198 rfl) cw_L_90 ⟨w_631, w_632⟩ rfl (by decide) rfl ⟨by decide, by decide⟩ rfl (Nat.le_of_ble_eq_true rfl) ⟨(by omega : c + 1 ≤ 621509), (by omega : s + 6 ≤ 7231577)⟩ (fun _ => ?_) (fun q => absurd z_11 q)
  refine go_iload (d_L_law_24 1201 rfl) rfl ?_
  rcases br_some h with ⟨c_12, h⟩ | ⟨c_12, h⟩
  · refine go_icmp_eq (tgt := 1208) (d_L_law_24 1203 rfl) (by decide) (fun _ => ?_) (fun q => absurd (of_decide_eq_true c_12) q)
    refine go_iload (d_L_law_24 1208 rfl) rfl ?_
    rcases br_some h with ⟨c_13, h⟩ | ⟨c_13, h⟩
    · refine go_if_ne (tgt := 1225) (d_L_law_24 1210 rfl) (by decide) (fun q => absurd (of_decide_eq_true c_13) q) (fun _ => ?_)
      refine go_aload_n (d_L_law_24 1213 rfl) rfl rfl ?_
      refine go_iconst (x := (0 : Int32)) (d_L_law_24 1214 rfl) (by decide) ?_
      obtain ⟨g_14, h⟩ := gd_some h
      refine go_lald (d_L_law_24 1215 rfl) rfl g_14 ?_
      refine go_iload (d_L_law_24 1216 rfl) rfl ?_
      refine go_i2l (d_L_law_24 1218 rfl) ?_
      refine go_lcmp (d_L_law_24 1219 rfl) ?_
      rcases br_some h with ⟨c_15, h⟩ | ⟨c_15, h⟩
      · refine go_if_eq (tgt := 1225) (d_L_law_24 1220 rfl) (by decide) (fun _ => ?_) (fun q => absurd (of_decide_eq_true c_15) q)
        refine go_goto (tgt := 1228) (d_L_law_24 1225 rfl) (by decide) ?_
        refine go_iinc (y := (x4 + 5)) (lv' := [(0, .ref b), (1, .ref (ad (0))), (2, .ref (ad (100))), (3, .ref (ad (119))), (4, .int ((x4 + 5))), (5, .int (r_2.2.1)), (6, .int (r_6.2.1))]) (d_L_law_24 1228 rfl) rfl rfl (by decide) rfl ?_
        refine go_goto (tgt := 23) (d_L_law_24 1231 rfl) (by decide) ?_
        refine go_sub (lv' := [(0, .ref b), (1, .ref (ad (0))), (2, .ref (ad (100))), (3, .ref (ad (119))), (4, .int ((x4 + 5)))]) ⟨rfl, rfl, rfl, rfl, rfl, trivial⟩ ?_
        exact hrec ((x4 + 5)) (r_9.2.2.2) (c + 1) (s + 6) (by omega) h
      · refine go_if_eq (tgt := 1225) (d_L_law_24 1220 rfl) (by decide) (fun q => absurd q (of_decide_eq_false c_15)) (fun _ => ?_)
        refine go_iconst (x := (0 : Int32)) (d_L_law_24 1223 rfl) (by decide) ?_
        cases h
    · refine go_if_ne (tgt := 1225) (d_L_law_24 1210 rfl) (by decide) (fun _ => ?_) (fun q => absurd q (of_decide_eq_false c_13))
      refine go_goto (tgt := 1228) (d_L_law_24 1225 rfl) (by decide) ?_
      refine go_iinc (y := (x4 + 5)) (lv' := [(0, .ref b), (1, .ref (ad (0))), (2, .ref (ad (100))), (3, .ref (ad (119))), (4, .int ((x4 + 5))), (5, .int (r_2.2.1)), (6, .int (r_6.2.1))]) (d_L_law_24 1228 rfl) rfl rfl (by decide) rfl ?_
      refine go_goto (tgt := 23) (d_L_law_24 1231 rfl) (by decide) ?_
      refine go_sub (lv' := [(0, .ref b), (1, .ref (ad (0))), (2, .ref (ad (100))), (3, .ref (ad (119))), (4, .int ((x4 + 5)))]) ⟨rfl, rfl, rfl, rfl, rfl, trivial⟩ ?_
      exact hrec ((x4 + 5)) (r_9.2.2.2) (c + 1) (s + 6) (by omega) h
  · refine go_icmp_eq (tgt := 1208) (d_L_law_24 1203 rfl) (by decide) (fun q => absurd q (of_decide_eq_false c_12)) (fun _ => ?_)
    refine go_iconst (x := (0 : Int32)) (d_L_law_24 1206 rfl) (by decide) ?_
    cases h
def f_L_law_23 (L : Nat) (xs : Nat → Int32) : Nat → Int32 → go_V → Option go_R
  | 0, _, _ => none
  | n + 1, x4, v => br (decide (((Int32.ofNat L) - (5 : Int32)) < x4)) (some (0, 1, 0, v)) (gd (go_in x4 L) (br (go_in ((xs x4.toNatClampNeg) &&& (31 : Int32)) 19) (br (Nat.beq ((xs x4.toNatClampNeg) &&& (31 : Int32)).toNatClampNeg 0) (f_L_law_128 L xs (f_L_law_23 L xs n) (x4) (v)) (br (Nat.beq ((xs x4.toNatClampNeg) &&& (31 : Int32)).toNatClampNeg 1) (f_L_law_188 L xs (f_L_law_23 L xs n) (x4) (v)) (br (Nat.beq ((xs x4.toNatClampNeg) &&& (31 : Int32)).toNatClampNeg 2) (f_L_law_224 L xs (f_L_law_23 L xs n) (x4) (v)) (br (Nat.beq ((xs x4.toNatClampNeg) &&& (31 : Int32)).toNatClampNeg 3) (f_L_law_316 L xs (f_L_law_23 L xs n) (x4) (v)) (br (Nat.beq ((xs x4.toNatClampNeg) &&& (31 : Int32)).toNatClampNeg 4) (f_L_law_360 L xs (f_L_law_23 L xs n) (x4) (v)) (br (Nat.beq ((xs x4.toNatClampNeg) &&& (31 : Int32)).toNatClampNeg 5) (f_L_law_396 L xs (f_L_law_23 L xs n) (x4) (v)) (br (Nat.beq ((xs x4.toNatClampNeg) &&& (31 : Int32)).toNatClampNeg 6) (f_L_law_452 L xs (f_L_law_23 L xs n) (x4) (v)) (br (Nat.beq ((xs x4.toNatClampNeg) &&& (31 : Int32)).toNatClampNeg 7) (f_L_law_520 L xs (f_L_law_23 L xs n) (x4) (v)) (br (Nat.beq ((xs x4.toNatClampNeg) &&& (31 : Int32)).toNatClampNeg 8) (f_L_law_588 L xs (f_L_law_23 L xs n) (x4) (v)) (br (Nat.beq ((xs x4.toNatClampNeg) &&& (31 : Int32)).toNatClampNeg 9) (f_L_law_656 L xs (f_L_law_23 L xs n) (x4) (v)) (br (Nat.beq ((xs x4.toNatClampNeg) &&& (31 : Int32)).toNatClampNeg 10) (f_L_law_692 L xs (f_L_law_23 L xs n) (x4) (v)) (br (Nat.beq ((xs x4.toNatClampNeg) &&& (31 : Int32)).toNatClampNeg 11) (f_L_law_760 L xs (f_L_law_23 L xs n) (x4) (v)) (br (Nat.beq ((xs x4.toNatClampNeg) &&& (31 : Int32)).toNatClampNeg 12) (f_L_law_816 L xs (f_L_law_23 L xs n) (x4) (v)) (br (Nat.beq ((xs x4.toNatClampNeg) &&& (31 : Int32)).toNatClampNeg 13) (f_L_law_876 L xs (f_L_law_23 L xs n) (x4) (v)) (br (Nat.beq ((xs x4.toNatClampNeg) &&& (31 : Int32)).toNatClampNeg 14) (f_L_law_912 L xs (f_L_law_23 L xs n) (x4) (v)) (br (Nat.beq ((xs x4.toNatClampNeg) &&& (31 : Int32)).toNatClampNeg 15) (f_L_law_980 L xs (f_L_law_23 L xs n) (x4) (v)) (br (Nat.beq ((xs x4.toNatClampNeg) &&& (31 : Int32)).toNatClampNeg 16) (f_L_law_1048 L xs (f_L_law_23 L xs n) (x4) (v)) (br (Nat.beq ((xs x4.toNatClampNeg) &&& (31 : Int32)).toNatClampNeg 17) (f_L_law_1116 L xs (f_L_law_23 L xs n) (x4) (v)) (br (Nat.beq ((xs x4.toNatClampNeg) &&& (31 : Int32)).toNatClampNeg 18) (f_L_law_1172 L xs (f_L_law_23 L xs n) (x4) (v)) (none)))))))))))))))))))) (f_L_law_23 L xs n ((x4 + 5)) (v))))
set_option maxHeartbeats 4000000 in
set_option maxRecDepth 100000 in
theorem b_L_law_23 {l : Launch} {G : go_G} {ad : Nat → Nat} {b L : Nat} {xs : Nat → Int32} (hl : l.stackTraces = false) {r : go_R} : ∀ (n : Nat) (x4 : Int32) (v : go_V) (c s : Nat), c + 8 * n ≤ 621509 ∧ s + 48 * n ≤ 7231577 → f_L_law_23 L xs n x4 v = some r → Go l G M_L_law (go_ExL b L xs) (go_EnL b) ad v [(0, .ref b), (1, .ref (ad 0)), (2, .ref (ad 100)), (3, .ref (ad 119)), (4, .int x4)] 23 [] c s := by
  intro n
  induction n with
  | zero =>
    intro x4 v c s hb h
    cases h
  | succ n ih =>
    intro x4 v c s hb h
    rw [f_L_law_23] at h
    have hrec := ih
    refine go_iload (d_L_law_0 23 rfl) rfl ?_
    refine go_aload_n (d_L_law_0 25 rfl) rfl rfl ?_
    refine go_slen (d_L_law_0 26 rfl) ?_
    refine go_iconst (x := (5 : Int32)) (d_L_law_0 27 rfl) (by decide) ?_
    refine go_isub (d_L_law_0 28 rfl) ?_
    rcases br_some h with ⟨c_1, h⟩ | ⟨c_1, h⟩
    · refine go_icmp_gt (tgt := 1234) (d_L_law_0 29 rfl) (by decide) (fun _ => ?_) (fun q => absurd (of_decide_eq_true c_1) q)
      refine go_iconst (x := (1 : Int32)) (d_L_law_24 1234 rfl) (by decide) ?_
      exact go_lend (d_L_law_24 1235 rfl) (by omega) (by omega)
    · refine go_icmp_gt (tgt := 1234) (d_L_law_0 29 rfl) (by decide) (fun q => absurd q (of_decide_eq_false c_1)) (fun _ => ?_)
      refine go_aload_n (d_L_law_0 32 rfl) rfl rfl ?_
      refine go_iload (d_L_law_0 33 rfl) rfl ?_
      obtain ⟨g_2, h⟩ := gd_some h
      refine go_sld (d_L_law_0 35 rfl) g_2 ?_
      refine go_bipush (x := (31 : Int32)) (d_L_law_0 36 rfl) (by decide) ?_
      refine go_iand (d_L_law_0 38 rfl) ?_
      rcases br_some h with ⟨c_3, h⟩ | ⟨c_3, h⟩
      · rcases br_some h with ⟨c_4, h⟩ | ⟨c_4, h⟩
        · refine go_tsw (tgt := 128) (n := 18) (d_L_law_0 39 rfl) c_3 rfl c_4 rfl (by decide) ?_
          exact b_L_law_128 hl _ hrec (x4) (v) c s (by omega) h
        rcases br_some h with ⟨c_5, h⟩ | ⟨c_5, h⟩
        · refine go_tsw (tgt := 188) (n := 18) (d_L_law_0 39 rfl) c_3 rfl c_5 rfl (by decide) ?_
          exact b_L_law_188 hl _ hrec (x4) (v) c s (by omega) h
        rcases br_some h with ⟨c_6, h⟩ | ⟨c_6, h⟩
        · refine go_tsw (tgt := 224) (n := 18) (d_L_law_0 39 rfl) c_3 rfl c_6 rfl (by decide) ?_
          exact b_L_law_224 hl _ hrec (x4) (v) c s (by omega) h
        rcases br_some h with ⟨c_7, h⟩ | ⟨c_7, h⟩
        · refine go_tsw (tgt := 316) (n := 18) (d_L_law_0 39 rfl) c_3 rfl c_7 rfl (by decide) ?_
          exact b_L_law_316 hl _ hrec (x4) (v) c s (by omega) h
        rcases br_some h with ⟨c_8, h⟩ | ⟨c_8, h⟩
        · refine go_tsw (tgt := 360) (n := 18) (d_L_law_0 39 rfl) c_3 rfl c_8 rfl (by decide) ?_
          exact b_L_law_360 hl _ hrec (x4) (v) c s (by omega) h
        rcases br_some h with ⟨c_9, h⟩ | ⟨c_9, h⟩
        · refine go_tsw (tgt := 396) (n := 18) (d_L_law_0 39 rfl) c_3 rfl c_9 rfl (by decide) ?_
          exact b_L_law_396 hl _ hrec (x4) (v) c s (by omega) h
        rcases br_some h with ⟨c_10, h⟩ | ⟨c_10, h⟩
        · refine go_tsw (tgt := 452) (n := 18) (d_L_law_0 39 rfl) c_3 rfl c_10 rfl (by decide) ?_
          exact b_L_law_452 hl _ hrec (x4) (v) c s (by omega) h
        rcases br_some h with ⟨c_11, h⟩ | ⟨c_11, h⟩
        · refine go_tsw (tgt := 520) (n := 18) (d_L_law_0 39 rfl) c_3 rfl c_11 rfl (by decide) ?_
          exact b_L_law_520 hl _ hrec (x4) (v) c s (by omega) h
        rcases br_some h with ⟨c_12, h⟩ | ⟨c_12, h⟩
        · refine go_tsw (tgt := 588) (n := 18) (d_L_law_0 39 rfl) c_3 rfl c_12 rfl (by decide) ?_
          exact b_L_law_588 hl _ hrec (x4) (v) c s (by omega) h
        rcases br_some h with ⟨c_13, h⟩ | ⟨c_13, h⟩
        · refine go_tsw (tgt := 656) (n := 18) (d_L_law_0 39 rfl) c_3 rfl c_13 rfl (by decide) ?_
          exact b_L_law_656 hl _ hrec (x4) (v) c s (by omega) h
        rcases br_some h with ⟨c_14, h⟩ | ⟨c_14, h⟩
        · refine go_tsw (tgt := 692) (n := 18) (d_L_law_0 39 rfl) c_3 rfl c_14 rfl (by decide) ?_
          exact b_L_law_692 hl _ hrec (x4) (v) c s (by omega) h
        rcases br_some h with ⟨c_15, h⟩ | ⟨c_15, h⟩
        · refine go_tsw (tgt := 760) (n := 18) (d_L_law_0 39 rfl) c_3 rfl c_15 rfl (by decide) ?_
          exact b_L_law_760 hl _ hrec (x4) (v) c s (by omega) h
        rcases br_some h with ⟨c_16, h⟩ | ⟨c_16, h⟩
        · refine go_tsw (tgt := 816) (n := 18) (d_L_law_0 39 rfl) c_3 rfl c_16 rfl (by decide) ?_
          exact b_L_law_816 hl _ hrec (x4) (v) c s (by omega) h
        rcases br_some h with ⟨c_17, h⟩ | ⟨c_17, h⟩
        · refine go_tsw (tgt := 876) (n := 18) (d_L_law_0 39 rfl) c_3 rfl c_17 rfl (by decide) ?_
          exact b_L_law_876 hl _ hrec (x4) (v) c s (by omega) h
        rcases br_some h with ⟨c_18, h⟩ | ⟨c_18, h⟩
        · refine go_tsw (tgt := 912) (n := 18) (d_L_law_0 39 rfl) c_3 rfl c_18 rfl (by decide) ?_
          exact b_L_law_912 hl _ hrec (x4) (v) c s (by omega) h
        rcases br_some h with ⟨c_19, h⟩ | ⟨c_19, h⟩
        · refine go_tsw (tgt := 980) (n := 18) (d_L_law_0 39 rfl) c_3 rfl c_19 rfl (by decide) ?_
          exact b_L_law_980 hl _ hrec (x4) (v) c s (by omega) h
        rcases br_some h with ⟨c_20, h⟩ | ⟨c_20, h⟩
        · refine go_tsw (tgt := 1048) (n := 18) (d_L_law_0 39 rfl) c_3 rfl c_20 rfl (by decide) ?_
          exact b_L_law_1048 hl _ hrec (x4) (v) c s (by omega) h
        rcases br_some h with ⟨c_21, h⟩ | ⟨c_21, h⟩
        · refine go_tsw (tgt := 1116) (n := 18) (d_L_law_0 39 rfl) c_3 rfl c_21 rfl (by decide) ?_
          exact b_L_law_1116 hl _ hrec (x4) (v) c s (by omega) h
        rcases br_some h with ⟨c_22, h⟩ | ⟨c_22, h⟩
        · refine go_tsw (tgt := 1172) (n := 18) (d_L_law_0 39 rfl) c_3 rfl c_22 rfl (by decide) ?_
          exact b_L_law_1172 hl _ hrec (x4) (v) c s (by omega) h
        cases h
      · refine go_tswO (tgt := 1228) (n := 18) (d_L_law_0 39 rfl) c_3 rfl (by decide) ?_
        refine go_iinc (y := (x4 + 5)) (lv' := [(0, .ref b), (1, .ref (ad (0))), (2, .ref (ad (100))), (3, .ref (ad (119))), (4, .int ((x4 + 5)))]) (d_L_law_24 1228 rfl) rfl rfl (by decide) rfl ?_
        refine go_goto (tgt := 23) (d_L_law_24 1231 rfl) (by decide) ?_
        exact hrec ((x4 + 5)) (v) (c) (s) (by omega) h
