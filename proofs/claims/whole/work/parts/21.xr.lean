set_option maxHeartbeats 4000000 in
set_option maxRecDepth 100000 in
theorem c_Xr_shapeOf (l : Launch) (D : va_G) (cA : Nat → ClassId) (ad : Nat → Nat) (sz : Nat) (g : Nat) (hg : g < 256) :
    cM l y_Xr_shapeOf (.code y_Xr_shapeOf b_Xr_shapeOf 1 (some .int) :: wAll) ({ frames := 0, cells := 0, slots := 0, locals := 0 }) D cA ad [.int (nI g)] [] sz (fun v (_ : Unit) => v = some (.int (nI (shOf g)))) (fun _ => False) (fun _ => []) (fun _ => (0, 0)) := by
  refine cM.ofW (cc := b_Xr_shapeOf) (maxL := 1) (ret := (some .int)) (by decide) (Nat.le_of_ble_eq_true rfl) ?_
  intro pg ev s m bw meth cdx A ls hF hsz hA hE hP hD hl
  obtain ⟨⟨hx, hb, hml, hown, hts⟩, hr, hno, hlocks, hin⟩ := hF
  subst hsz
  have hown : s.vm.findClass "ModuleBytes$ExpressionReader" = some m.cls := hown
  have hS : va_S A s.heap s.heap [] := va_S.rf
  have hl : lv_has ls 1 [(0, .int (nI g))] := hl
  have key : ¬ (69 ≤ g ∧ g ≤ 196) → ¬ (40 ≤ g ∧ g ≤ 62) → ¬ (32 ≤ g ∧ g ≤ 38) → W pg l ev ({ frames := 0, cells := 0, slots := 0, locals := 0 }) s m ([.int (nI g)] : List Value).toArray bw meth cdx s.heap [] 0 0 (tx_Q bw (cQ D (fun v (_ : Unit) => v = some (.int (nI (shOf g)))) (fun _ => False) (fun _ => []) (fun _ => (0, 0)) A) ([.int (nI g)] : List Value).toArray s A) (F0 m 43 ls []) := by
    intro r1 r2 r3
    refine lv_iload_n hx hb d_Xr_shapeOf_43 rfl (lv_at hl 0 rfl) ?_
    by_cases k_0 : g = 0
    · refine W.eq (g2 := F0 m 44 ls [.int 0]) (by rw [k_0]; rfl) ?_
      refine lv_lookup (off := 172) (tgt := 216) hx hb d_Xr_shapeOf_44 (by decide) (by decide) (by decide) ?_
      refine lv_iconst (v := 1) hx hb d_Xr_shapeOf_216 (by decide) ?_
      have hh : shOf g = 1 := by first | (exfalso; omega) | (unfold shOf; repeat (first | rw [if_pos (by omega)] | rw [if_neg (by omega)]))
      exact cRi () hx hb hr hlocks d_Xr_shapeOf_217 hS hP hD (by rw [hh]; rfl) (Nat.le_refl _) (Nat.le_refl _)
    by_cases k_1 : g = 1
    · refine W.eq (g2 := F0 m 44 ls [.int 1]) (by rw [k_1]; rfl) ?_
      refine lv_lookup (off := 172) (tgt := 216) hx hb d_Xr_shapeOf_44 (by decide) (by decide) (by decide) ?_
      refine lv_iconst (v := 1) hx hb d_Xr_shapeOf_216 (by decide) ?_
      have hh : shOf g = 1 := by first | (exfalso; omega) | (unfold shOf; repeat (first | rw [if_pos (by omega)] | rw [if_neg (by omega)]))
      exact cRi () hx hb hr hlocks d_Xr_shapeOf_217 hS hP hD (by rw [hh]; rfl) (Nat.le_refl _) (Nat.le_refl _)
    by_cases k_12 : g = 12
    · refine W.eq (g2 := F0 m 44 ls [.int 12]) (by rw [k_12]; rfl) ?_
      refine lv_lookup (off := 174) (tgt := 218) hx hb d_Xr_shapeOf_44 (by decide) (by decide) (by decide) ?_
      refine lv_iconst (v := 2) hx hb d_Xr_shapeOf_218 (by decide) ?_
      have hh : shOf g = 2 := by first | (exfalso; omega) | (unfold shOf; repeat (first | rw [if_pos (by omega)] | rw [if_neg (by omega)]))
      exact cRi () hx hb hr hlocks d_Xr_shapeOf_219 hS hP hD (by rw [hh]; rfl) (Nat.le_refl _) (Nat.le_refl _)
    by_cases k_13 : g = 13
    · refine W.eq (g2 := F0 m 44 ls [.int 13]) (by rw [k_13]; rfl) ?_
      refine lv_lookup (off := 174) (tgt := 218) hx hb d_Xr_shapeOf_44 (by decide) (by decide) (by decide) ?_
      refine lv_iconst (v := 2) hx hb d_Xr_shapeOf_218 (by decide) ?_
      have hh : shOf g = 2 := by first | (exfalso; omega) | (unfold shOf; repeat (first | rw [if_pos (by omega)] | rw [if_neg (by omega)]))
      exact cRi () hx hb hr hlocks d_Xr_shapeOf_219 hS hP hD (by rw [hh]; rfl) (Nat.le_refl _) (Nat.le_refl _)
    by_cases k_14 : g = 14
    · refine W.eq (g2 := F0 m 44 ls [.int 14]) (by rw [k_14]; rfl) ?_
      refine lv_lookup (off := 176) (tgt := 220) hx hb d_Xr_shapeOf_44 (by decide) (by decide) (by decide) ?_
      refine lv_iconst (v := 4) hx hb d_Xr_shapeOf_220 (by decide) ?_
      have hh : shOf g = 4 := by first | (exfalso; omega) | (unfold shOf; repeat (first | rw [if_pos (by omega)] | rw [if_neg (by omega)]))
      exact cRi () hx hb hr hlocks d_Xr_shapeOf_221 hS hP hD (by rw [hh]; rfl) (Nat.le_refl _) (Nat.le_refl _)
    by_cases k_15 : g = 15
    · refine W.eq (g2 := F0 m 44 ls [.int 15]) (by rw [k_15]; rfl) ?_
      refine lv_lookup (off := 172) (tgt := 216) hx hb d_Xr_shapeOf_44 (by decide) (by decide) (by decide) ?_
      refine lv_iconst (v := 1) hx hb d_Xr_shapeOf_216 (by decide) ?_
      have hh : shOf g = 1 := by first | (exfalso; omega) | (unfold shOf; repeat (first | rw [if_pos (by omega)] | rw [if_neg (by omega)]))
      exact cRi () hx hb hr hlocks d_Xr_shapeOf_217 hS hP hD (by rw [hh]; rfl) (Nat.le_refl _) (Nat.le_refl _)
    by_cases k_16 : g = 16
    · refine W.eq (g2 := F0 m 44 ls [.int 16]) (by rw [k_16]; rfl) ?_
      refine lv_lookup (off := 174) (tgt := 218) hx hb d_Xr_shapeOf_44 (by decide) (by decide) (by decide) ?_
      refine lv_iconst (v := 2) hx hb d_Xr_shapeOf_218 (by decide) ?_
      have hh : shOf g = 2 := by first | (exfalso; omega) | (unfold shOf; repeat (first | rw [if_pos (by omega)] | rw [if_neg (by omega)]))
      exact cRi () hx hb hr hlocks d_Xr_shapeOf_219 hS hP hD (by rw [hh]; rfl) (Nat.le_refl _) (Nat.le_refl _)
    by_cases k_17 : g = 17
    · refine W.eq (g2 := F0 m 44 ls [.int 17]) (by rw [k_17]; rfl) ?_
      refine lv_lookup (off := 178) (tgt := 222) hx hb d_Xr_shapeOf_44 (by decide) (by decide) (by decide) ?_
      refine lv_iconst (v := 3) hx hb d_Xr_shapeOf_222 (by decide) ?_
      have hh : shOf g = 3 := by first | (exfalso; omega) | (unfold shOf; repeat (first | rw [if_pos (by omega)] | rw [if_neg (by omega)]))
      exact cRi () hx hb hr hlocks d_Xr_shapeOf_223 hS hP hD (by rw [hh]; rfl) (Nat.le_refl _) (Nat.le_refl _)
    by_cases k_26 : g = 26
    · refine W.eq (g2 := F0 m 44 ls [.int 26]) (by rw [k_26]; rfl) ?_
      refine lv_lookup (off := 172) (tgt := 216) hx hb d_Xr_shapeOf_44 (by decide) (by decide) (by decide) ?_
      refine lv_iconst (v := 1) hx hb d_Xr_shapeOf_216 (by decide) ?_
      have hh : shOf g = 1 := by first | (exfalso; omega) | (unfold shOf; repeat (first | rw [if_pos (by omega)] | rw [if_neg (by omega)]))
      exact cRi () hx hb hr hlocks d_Xr_shapeOf_217 hS hP hD (by rw [hh]; rfl) (Nat.le_refl _) (Nat.le_refl _)
    by_cases k_27 : g = 27
    · refine W.eq (g2 := F0 m 44 ls [.int 27]) (by rw [k_27]; rfl) ?_
      refine lv_lookup (off := 172) (tgt := 216) hx hb d_Xr_shapeOf_44 (by decide) (by decide) (by decide) ?_
      refine lv_iconst (v := 1) hx hb d_Xr_shapeOf_216 (by decide) ?_
      have hh : shOf g = 1 := by first | (exfalso; omega) | (unfold shOf; repeat (first | rw [if_pos (by omega)] | rw [if_neg (by omega)]))
      exact cRi () hx hb hr hlocks d_Xr_shapeOf_217 hS hP hD (by rw [hh]; rfl) (Nat.le_refl _) (Nat.le_refl _)
    by_cases k_28 : g = 28
    · refine W.eq (g2 := F0 m 44 ls [.int 28]) (by rw [k_28]; rfl) ?_
      refine lv_lookup (off := 180) (tgt := 224) hx hb d_Xr_shapeOf_44 (by decide) (by decide) (by decide) ?_
      refine lv_iconst (v := 5) hx hb d_Xr_shapeOf_224 (by decide) ?_
      have hh : shOf g = 5 := by first | (exfalso; omega) | (unfold shOf; repeat (first | rw [if_pos (by omega)] | rw [if_neg (by omega)]))
      exact cRi () hx hb hr hlocks d_Xr_shapeOf_225 hS hP hD (by rw [hh]; rfl) (Nat.le_refl _) (Nat.le_refl _)
    by_cases k_63 : g = 63
    · refine W.eq (g2 := F0 m 44 ls [.int 63]) (by rw [k_63]; rfl) ?_
      refine lv_lookup (off := 182) (tgt := 226) hx hb d_Xr_shapeOf_44 (by decide) (by decide) (by decide) ?_
      refine lv_bipush (v := 6) hx hb d_Xr_shapeOf_226 (by decide) ?_
      have hh : shOf g = 6 := by first | (exfalso; omega) | (unfold shOf; repeat (first | rw [if_pos (by omega)] | rw [if_neg (by omega)]))
      exact cRi () hx hb hr hlocks d_Xr_shapeOf_228 hS hP hD (by rw [hh]; rfl) (Nat.le_refl _) (Nat.le_refl _)
    by_cases k_64 : g = 64
    · refine W.eq (g2 := F0 m 44 ls [.int 64]) (by rw [k_64]; rfl) ?_
      refine lv_lookup (off := 182) (tgt := 226) hx hb d_Xr_shapeOf_44 (by decide) (by decide) (by decide) ?_
      refine lv_bipush (v := 6) hx hb d_Xr_shapeOf_226 (by decide) ?_
      have hh : shOf g = 6 := by first | (exfalso; omega) | (unfold shOf; repeat (first | rw [if_pos (by omega)] | rw [if_neg (by omega)]))
      exact cRi () hx hb hr hlocks d_Xr_shapeOf_228 hS hP hD (by rw [hh]; rfl) (Nat.le_refl _) (Nat.le_refl _)
    by_cases k_65 : g = 65
    · refine W.eq (g2 := F0 m 44 ls [.int 65]) (by rw [k_65]; rfl) ?_
      refine lv_lookup (off := 185) (tgt := 229) hx hb d_Xr_shapeOf_44 (by decide) (by decide) (by decide) ?_
      refine lv_bipush (v := 9) hx hb d_Xr_shapeOf_229 (by decide) ?_
      have hh : shOf g = 9 := by first | (exfalso; omega) | (unfold shOf; repeat (first | rw [if_pos (by omega)] | rw [if_neg (by omega)]))
      exact cRi () hx hb hr hlocks d_Xr_shapeOf_231 hS hP hD (by rw [hh]; rfl) (Nat.le_refl _) (Nat.le_refl _)
    by_cases k_66 : g = 66
    · refine W.eq (g2 := F0 m 44 ls [.int 66]) (by rw [k_66]; rfl) ?_
      refine lv_lookup (off := 188) (tgt := 232) hx hb d_Xr_shapeOf_44 (by decide) (by decide) (by decide) ?_
      refine lv_bipush (v := 10) hx hb d_Xr_shapeOf_232 (by decide) ?_
      have hh : shOf g = 10 := by first | (exfalso; omega) | (unfold shOf; repeat (first | rw [if_pos (by omega)] | rw [if_neg (by omega)]))
      exact cRi () hx hb hr hlocks d_Xr_shapeOf_234 hS hP hD (by rw [hh]; rfl) (Nat.le_refl _) (Nat.le_refl _)
    by_cases k_67 : g = 67
    · refine W.eq (g2 := F0 m 44 ls [.int 67]) (by rw [k_67]; rfl) ?_
      refine lv_lookup (off := 191) (tgt := 235) hx hb d_Xr_shapeOf_44 (by decide) (by decide) (by decide) ?_
      refine lv_bipush (v := 11) hx hb d_Xr_shapeOf_235 (by decide) ?_
      have hh : shOf g = 11 := by first | (exfalso; omega) | (unfold shOf; repeat (first | rw [if_pos (by omega)] | rw [if_neg (by omega)]))
      exact cRi () hx hb hr hlocks d_Xr_shapeOf_237 hS hP hD (by rw [hh]; rfl) (Nat.le_refl _) (Nat.le_refl _)
    by_cases k_68 : g = 68
    · refine W.eq (g2 := F0 m 44 ls [.int 68]) (by rw [k_68]; rfl) ?_
      refine lv_lookup (off := 194) (tgt := 238) hx hb d_Xr_shapeOf_44 (by decide) (by decide) (by decide) ?_
      refine lv_bipush (v := 12) hx hb d_Xr_shapeOf_238 (by decide) ?_
      have hh : shOf g = 12 := by first | (exfalso; omega) | (unfold shOf; repeat (first | rw [if_pos (by omega)] | rw [if_neg (by omega)]))
      exact cRi () hx hb hr hlocks d_Xr_shapeOf_240 hS hP hD (by rw [hh]; rfl) (Nat.le_refl _) (Nat.le_refl _)
    by_cases k_208 : g = 208
    · refine W.eq (g2 := F0 m 44 ls [.int 208]) (by rw [k_208]; rfl) ?_
      refine lv_lookup (off := 197) (tgt := 241) hx hb d_Xr_shapeOf_44 (by decide) (by decide) (by decide) ?_
      refine lv_bipush (v := 13) hx hb d_Xr_shapeOf_241 (by decide) ?_
      have hh : shOf g = 13 := by first | (exfalso; omega) | (unfold shOf; repeat (first | rw [if_pos (by omega)] | rw [if_neg (by omega)]))
      exact cRi () hx hb hr hlocks d_Xr_shapeOf_243 hS hP hD (by rw [hh]; rfl) (Nat.le_refl _) (Nat.le_refl _)
    by_cases k_209 : g = 209
    · refine W.eq (g2 := F0 m 44 ls [.int 209]) (by rw [k_209]; rfl) ?_
      refine lv_lookup (off := 172) (tgt := 216) hx hb d_Xr_shapeOf_44 (by decide) (by decide) (by decide) ?_
      refine lv_iconst (v := 1) hx hb d_Xr_shapeOf_216 (by decide) ?_
      have hh : shOf g = 1 := by first | (exfalso; omega) | (unfold shOf; repeat (first | rw [if_pos (by omega)] | rw [if_neg (by omega)]))
      exact cRi () hx hb hr hlocks d_Xr_shapeOf_217 hS hP hD (by rw [hh]; rfl) (Nat.le_refl _) (Nat.le_refl _)
    by_cases k_210 : g = 210
    · refine W.eq (g2 := F0 m 44 ls [.int 210]) (by rw [k_210]; rfl) ?_
      refine lv_lookup (off := 174) (tgt := 218) hx hb d_Xr_shapeOf_44 (by decide) (by decide) (by decide) ?_
      refine lv_iconst (v := 2) hx hb d_Xr_shapeOf_218 (by decide) ?_
      have hh : shOf g = 2 := by first | (exfalso; omega) | (unfold shOf; repeat (first | rw [if_pos (by omega)] | rw [if_neg (by omega)]))
      exact cRi () hx hb hr hlocks d_Xr_shapeOf_219 hS hP hD (by rw [hh]; rfl) (Nat.le_refl _) (Nat.le_refl _)
    refine lv_lookup (off := 200) (tgt := 244) hx hb d_Xr_shapeOf_44 (by decide) (by rw [lv_osw (k := 0) (fun q => k_0 (nI_lit_eq (by omega) (by omega) q)) (by decide), lv_osw (k := 1) (fun q => k_1 (nI_lit_eq (by omega) (by omega) q)) (by decide), lv_osw (k := 12) (fun q => k_12 (nI_lit_eq (by omega) (by omega) q)) (by decide), lv_osw (k := 13) (fun q => k_13 (nI_lit_eq (by omega) (by omega) q)) (by decide), lv_osw (k := 14) (fun q => k_14 (nI_lit_eq (by omega) (by omega) q)) (by decide), lv_osw (k := 15) (fun q => k_15 (nI_lit_eq (by omega) (by omega) q)) (by decide), lv_osw (k := 16) (fun q => k_16 (nI_lit_eq (by omega) (by omega) q)) (by decide), lv_osw (k := 17) (fun q => k_17 (nI_lit_eq (by omega) (by omega) q)) (by decide), lv_osw (k := 26) (fun q => k_26 (nI_lit_eq (by omega) (by omega) q)) (by decide), lv_osw (k := 27) (fun q => k_27 (nI_lit_eq (by omega) (by omega) q)) (by decide), lv_osw (k := 28) (fun q => k_28 (nI_lit_eq (by omega) (by omega) q)) (by decide), lv_osw (k := 63) (fun q => k_63 (nI_lit_eq (by omega) (by omega) q)) (by decide), lv_osw (k := 64) (fun q => k_64 (nI_lit_eq (by omega) (by omega) q)) (by decide), lv_osw (k := 65) (fun q => k_65 (nI_lit_eq (by omega) (by omega) q)) (by decide), lv_osw (k := 66) (fun q => k_66 (nI_lit_eq (by omega) (by omega) q)) (by decide), lv_osw (k := 67) (fun q => k_67 (nI_lit_eq (by omega) (by omega) q)) (by decide), lv_osw (k := 68) (fun q => k_68 (nI_lit_eq (by omega) (by omega) q)) (by decide), lv_osw (k := 208) (fun q => k_208 (nI_lit_eq (by omega) (by omega) q)) (by decide), lv_osw (k := 209) (fun q => k_209 (nI_lit_eq (by omega) (by omega) q)) (by decide), lv_osw (k := 210) (fun q => k_210 (nI_lit_eq (by omega) (by omega) q)) (by decide)]; rfl) (by decide) ?_
    refine lv_iconst (v := 0) hx hb d_Xr_shapeOf_244 (by decide) ?_
    have hh : shOf g = 0 := by first | (exfalso; omega) | (unfold shOf; repeat (first | rw [if_pos (by omega)] | rw [if_neg (by omega)]))
    exact cRi () hx hb hr hlocks d_Xr_shapeOf_245 hS hP hD (by rw [hh]; rfl) (Nat.le_refl _) (Nat.le_refl _)
  refine lv_iload_n hx hb d_Xr_shapeOf_0 rfl (lv_at hl 0 rfl) ?_
  refine lv_bipush (v := 69) hx hb d_Xr_shapeOf_1 (by decide) ?_
  refine lv_icmp_lt (tgt := 15) hx hb d_Xr_shapeOf_3 (by decide) (fun c_3 => ?_) (fun c_3 => ?_)
  · refine lv_iload_n hx hb d_Xr_shapeOf_15 rfl (lv_at hl 0 rfl) ?_
    refine lv_bipush (v := 40) hx hb d_Xr_shapeOf_16 (by decide) ?_
    refine lv_icmp_lt (tgt := 29) hx hb d_Xr_shapeOf_18 (by decide) (fun c_18 => ?_) (fun c_18 => ?_)
    · refine lv_iload_n hx hb d_Xr_shapeOf_29 rfl (lv_at hl 0 rfl) ?_
      refine lv_bipush (v := 32) hx hb d_Xr_shapeOf_30 (by decide) ?_
      refine lv_icmp_lt (tgt := 43) hx hb d_Xr_shapeOf_32 (by decide) (fun c_32 => ?_) (fun c_32 => ?_)
      · try rw [show (69 : Int32) = nI 69 from rfl, nI_ltI (by omega) (by omega)] at c_3
        try rw [show (196 : Int32) = nI 196 from rfl, nI_ltI (by omega) (by omega)] at c_10
        try rw [show (40 : Int32) = nI 40 from rfl, nI_ltI (by omega) (by omega)] at c_18
        try rw [show (62 : Int32) = nI 62 from rfl, nI_ltI (by omega) (by omega)] at c_24
        try rw [show (32 : Int32) = nI 32 from rfl, nI_ltI (by omega) (by omega)] at c_32
        try rw [show (38 : Int32) = nI 38 from rfl, nI_ltI (by omega) (by omega)] at c_38
        exact key (by omega) (by omega) (by omega)
      · refine lv_iload_n hx hb d_Xr_shapeOf_35 rfl (lv_at hl 0 rfl) ?_
        refine lv_bipush (v := 38) hx hb d_Xr_shapeOf_36 (by decide) ?_
        refine lv_icmp_gt (tgt := 43) hx hb d_Xr_shapeOf_38 (by decide) (fun c_38 => ?_) (fun c_38 => ?_)
        · try rw [show (69 : Int32) = nI 69 from rfl, nI_ltI (by omega) (by omega)] at c_3
          try rw [show (196 : Int32) = nI 196 from rfl, nI_ltI (by omega) (by omega)] at c_10
          try rw [show (40 : Int32) = nI 40 from rfl, nI_ltI (by omega) (by omega)] at c_18
          try rw [show (62 : Int32) = nI 62 from rfl, nI_ltI (by omega) (by omega)] at c_24
          try rw [show (32 : Int32) = nI 32 from rfl, nI_ltI (by omega) (by omega)] at c_32
          try rw [show (38 : Int32) = nI 38 from rfl, nI_ltI (by omega) (by omega)] at c_38
          exact key (by omega) (by omega) (by omega)
        · refine lv_iconst (v := 2) hx hb d_Xr_shapeOf_41 (by decide) ?_
          try rw [show (69 : Int32) = nI 69 from rfl, nI_ltI (by omega) (by omega)] at c_3
          try rw [show (196 : Int32) = nI 196 from rfl, nI_ltI (by omega) (by omega)] at c_10
          try rw [show (40 : Int32) = nI 40 from rfl, nI_ltI (by omega) (by omega)] at c_18
          try rw [show (62 : Int32) = nI 62 from rfl, nI_ltI (by omega) (by omega)] at c_24
          try rw [show (32 : Int32) = nI 32 from rfl, nI_ltI (by omega) (by omega)] at c_32
          try rw [show (38 : Int32) = nI 38 from rfl, nI_ltI (by omega) (by omega)] at c_38
          have hh : shOf g = 2 := by first | (exfalso; omega) | (unfold shOf; repeat (first | rw [if_pos (by omega)] | rw [if_neg (by omega)]))
          exact cRi () hx hb hr hlocks d_Xr_shapeOf_42 hS hP hD (by rw [hh]; rfl) (Nat.le_refl _) (Nat.le_refl _)
    · refine lv_iload_n hx hb d_Xr_shapeOf_21 rfl (lv_at hl 0 rfl) ?_
      refine lv_bipush (v := 62) hx hb d_Xr_shapeOf_22 (by decide) ?_
      refine lv_icmp_gt (tgt := 29) hx hb d_Xr_shapeOf_24 (by decide) (fun c_24 => ?_) (fun c_24 => ?_)
      · refine lv_iload_n hx hb d_Xr_shapeOf_29 rfl (lv_at hl 0 rfl) ?_
        refine lv_bipush (v := 32) hx hb d_Xr_shapeOf_30 (by decide) ?_
        refine lv_icmp_lt (tgt := 43) hx hb d_Xr_shapeOf_32 (by decide) (fun c_32 => ?_) (fun c_32 => ?_)
        · try rw [show (69 : Int32) = nI 69 from rfl, nI_ltI (by omega) (by omega)] at c_3
          try rw [show (196 : Int32) = nI 196 from rfl, nI_ltI (by omega) (by omega)] at c_10
          try rw [show (40 : Int32) = nI 40 from rfl, nI_ltI (by omega) (by omega)] at c_18
          try rw [show (62 : Int32) = nI 62 from rfl, nI_ltI (by omega) (by omega)] at c_24
          try rw [show (32 : Int32) = nI 32 from rfl, nI_ltI (by omega) (by omega)] at c_32
          try rw [show (38 : Int32) = nI 38 from rfl, nI_ltI (by omega) (by omega)] at c_38
          exact key (by omega) (by omega) (by omega)
        · refine lv_iload_n hx hb d_Xr_shapeOf_35 rfl (lv_at hl 0 rfl) ?_
          refine lv_bipush (v := 38) hx hb d_Xr_shapeOf_36 (by decide) ?_
          refine lv_icmp_gt (tgt := 43) hx hb d_Xr_shapeOf_38 (by decide) (fun c_38 => ?_) (fun c_38 => ?_)
          · try rw [show (69 : Int32) = nI 69 from rfl, nI_ltI (by omega) (by omega)] at c_3
            try rw [show (196 : Int32) = nI 196 from rfl, nI_ltI (by omega) (by omega)] at c_10
            try rw [show (40 : Int32) = nI 40 from rfl, nI_ltI (by omega) (by omega)] at c_18
            try rw [show (62 : Int32) = nI 62 from rfl, nI_ltI (by omega) (by omega)] at c_24
            try rw [show (32 : Int32) = nI 32 from rfl, nI_ltI (by omega) (by omega)] at c_32
            try rw [show (38 : Int32) = nI 38 from rfl, nI_ltI (by omega) (by omega)] at c_38
            exact key (by omega) (by omega) (by omega)
          · refine lv_iconst (v := 2) hx hb d_Xr_shapeOf_41 (by decide) ?_
            try rw [show (69 : Int32) = nI 69 from rfl, nI_ltI (by omega) (by omega)] at c_3
            try rw [show (196 : Int32) = nI 196 from rfl, nI_ltI (by omega) (by omega)] at c_10
            try rw [show (40 : Int32) = nI 40 from rfl, nI_ltI (by omega) (by omega)] at c_18
            try rw [show (62 : Int32) = nI 62 from rfl, nI_ltI (by omega) (by omega)] at c_24
            try rw [show (32 : Int32) = nI 32 from rfl, nI_ltI (by omega) (by omega)] at c_32
            try rw [show (38 : Int32) = nI 38 from rfl, nI_ltI (by omega) (by omega)] at c_38
            have hh : shOf g = 2 := by first | (exfalso; omega) | (unfold shOf; repeat (first | rw [if_pos (by omega)] | rw [if_neg (by omega)]))
            exact cRi () hx hb hr hlocks d_Xr_shapeOf_42 hS hP hD (by rw [hh]; rfl) (Nat.le_refl _) (Nat.le_refl _)
      · refine lv_iconst (v := 3) hx hb d_Xr_shapeOf_27 (by decide) ?_
        try rw [show (69 : Int32) = nI 69 from rfl, nI_ltI (by omega) (by omega)] at c_3
        try rw [show (196 : Int32) = nI 196 from rfl, nI_ltI (by omega) (by omega)] at c_10
        try rw [show (40 : Int32) = nI 40 from rfl, nI_ltI (by omega) (by omega)] at c_18
        try rw [show (62 : Int32) = nI 62 from rfl, nI_ltI (by omega) (by omega)] at c_24
        try rw [show (32 : Int32) = nI 32 from rfl, nI_ltI (by omega) (by omega)] at c_32
        try rw [show (38 : Int32) = nI 38 from rfl, nI_ltI (by omega) (by omega)] at c_38
        have hh : shOf g = 3 := by first | (exfalso; omega) | (unfold shOf; repeat (first | rw [if_pos (by omega)] | rw [if_neg (by omega)]))
        exact cRi () hx hb hr hlocks d_Xr_shapeOf_28 hS hP hD (by rw [hh]; rfl) (Nat.le_refl _) (Nat.le_refl _)
  · refine lv_iload_n hx hb d_Xr_shapeOf_6 rfl (lv_at hl 0 rfl) ?_
    refine lv_sipush (v := 196) hx hb d_Xr_shapeOf_7 (by decide) ?_
    refine lv_icmp_gt (tgt := 15) hx hb d_Xr_shapeOf_10 (by decide) (fun c_10 => ?_) (fun c_10 => ?_)
    · refine lv_iload_n hx hb d_Xr_shapeOf_15 rfl (lv_at hl 0 rfl) ?_
      refine lv_bipush (v := 40) hx hb d_Xr_shapeOf_16 (by decide) ?_
      refine lv_icmp_lt (tgt := 29) hx hb d_Xr_shapeOf_18 (by decide) (fun c_18 => ?_) (fun c_18 => ?_)
      · refine lv_iload_n hx hb d_Xr_shapeOf_29 rfl (lv_at hl 0 rfl) ?_
        refine lv_bipush (v := 32) hx hb d_Xr_shapeOf_30 (by decide) ?_
        refine lv_icmp_lt (tgt := 43) hx hb d_Xr_shapeOf_32 (by decide) (fun c_32 => ?_) (fun c_32 => ?_)
        · try rw [show (69 : Int32) = nI 69 from rfl, nI_ltI (by omega) (by omega)] at c_3
          try rw [show (196 : Int32) = nI 196 from rfl, nI_ltI (by omega) (by omega)] at c_10
          try rw [show (40 : Int32) = nI 40 from rfl, nI_ltI (by omega) (by omega)] at c_18
          try rw [show (62 : Int32) = nI 62 from rfl, nI_ltI (by omega) (by omega)] at c_24
          try rw [show (32 : Int32) = nI 32 from rfl, nI_ltI (by omega) (by omega)] at c_32
          try rw [show (38 : Int32) = nI 38 from rfl, nI_ltI (by omega) (by omega)] at c_38
          exact key (by omega) (by omega) (by omega)
        · refine lv_iload_n hx hb d_Xr_shapeOf_35 rfl (lv_at hl 0 rfl) ?_
          refine lv_bipush (v := 38) hx hb d_Xr_shapeOf_36 (by decide) ?_
          refine lv_icmp_gt (tgt := 43) hx hb d_Xr_shapeOf_38 (by decide) (fun c_38 => ?_) (fun c_38 => ?_)
          · try rw [show (69 : Int32) = nI 69 from rfl, nI_ltI (by omega) (by omega)] at c_3
            try rw [show (196 : Int32) = nI 196 from rfl, nI_ltI (by omega) (by omega)] at c_10
            try rw [show (40 : Int32) = nI 40 from rfl, nI_ltI (by omega) (by omega)] at c_18
            try rw [show (62 : Int32) = nI 62 from rfl, nI_ltI (by omega) (by omega)] at c_24
            try rw [show (32 : Int32) = nI 32 from rfl, nI_ltI (by omega) (by omega)] at c_32
            try rw [show (38 : Int32) = nI 38 from rfl, nI_ltI (by omega) (by omega)] at c_38
            exact key (by omega) (by omega) (by omega)
          · refine lv_iconst (v := 2) hx hb d_Xr_shapeOf_41 (by decide) ?_
            try rw [show (69 : Int32) = nI 69 from rfl, nI_ltI (by omega) (by omega)] at c_3
            try rw [show (196 : Int32) = nI 196 from rfl, nI_ltI (by omega) (by omega)] at c_10
            try rw [show (40 : Int32) = nI 40 from rfl, nI_ltI (by omega) (by omega)] at c_18
            try rw [show (62 : Int32) = nI 62 from rfl, nI_ltI (by omega) (by omega)] at c_24
            try rw [show (32 : Int32) = nI 32 from rfl, nI_ltI (by omega) (by omega)] at c_32
            try rw [show (38 : Int32) = nI 38 from rfl, nI_ltI (by omega) (by omega)] at c_38
            have hh : shOf g = 2 := by first | (exfalso; omega) | (unfold shOf; repeat (first | rw [if_pos (by omega)] | rw [if_neg (by omega)]))
            exact cRi () hx hb hr hlocks d_Xr_shapeOf_42 hS hP hD (by rw [hh]; rfl) (Nat.le_refl _) (Nat.le_refl _)
      · refine lv_iload_n hx hb d_Xr_shapeOf_21 rfl (lv_at hl 0 rfl) ?_
        refine lv_bipush (v := 62) hx hb d_Xr_shapeOf_22 (by decide) ?_
        refine lv_icmp_gt (tgt := 29) hx hb d_Xr_shapeOf_24 (by decide) (fun c_24 => ?_) (fun c_24 => ?_)
        · refine lv_iload_n hx hb d_Xr_shapeOf_29 rfl (lv_at hl 0 rfl) ?_
          refine lv_bipush (v := 32) hx hb d_Xr_shapeOf_30 (by decide) ?_
          refine lv_icmp_lt (tgt := 43) hx hb d_Xr_shapeOf_32 (by decide) (fun c_32 => ?_) (fun c_32 => ?_)
          · try rw [show (69 : Int32) = nI 69 from rfl, nI_ltI (by omega) (by omega)] at c_3
            try rw [show (196 : Int32) = nI 196 from rfl, nI_ltI (by omega) (by omega)] at c_10
            try rw [show (40 : Int32) = nI 40 from rfl, nI_ltI (by omega) (by omega)] at c_18
            try rw [show (62 : Int32) = nI 62 from rfl, nI_ltI (by omega) (by omega)] at c_24
            try rw [show (32 : Int32) = nI 32 from rfl, nI_ltI (by omega) (by omega)] at c_32
            try rw [show (38 : Int32) = nI 38 from rfl, nI_ltI (by omega) (by omega)] at c_38
            exact key (by omega) (by omega) (by omega)
          · refine lv_iload_n hx hb d_Xr_shapeOf_35 rfl (lv_at hl 0 rfl) ?_
            refine lv_bipush (v := 38) hx hb d_Xr_shapeOf_36 (by decide) ?_
            refine lv_icmp_gt (tgt := 43) hx hb d_Xr_shapeOf_38 (by decide) (fun c_38 => ?_) (fun c_38 => ?_)
            · try rw [show (69 : Int32) = nI 69 from rfl, nI_ltI (by omega) (by omega)] at c_3
              try rw [show (196 : Int32) = nI 196 from rfl, nI_ltI (by omega) (by omega)] at c_10
              try rw [show (40 : Int32) = nI 40 from rfl, nI_ltI (by omega) (by omega)] at c_18
              try rw [show (62 : Int32) = nI 62 from rfl, nI_ltI (by omega) (by omega)] at c_24
              try rw [show (32 : Int32) = nI 32 from rfl, nI_ltI (by omega) (by omega)] at c_32
              try rw [show (38 : Int32) = nI 38 from rfl, nI_ltI (by omega) (by omega)] at c_38
              exact key (by omega) (by omega) (by omega)
            · refine lv_iconst (v := 2) hx hb d_Xr_shapeOf_41 (by decide) ?_
              try rw [show (69 : Int32) = nI 69 from rfl, nI_ltI (by omega) (by omega)] at c_3
              try rw [show (196 : Int32) = nI 196 from rfl, nI_ltI (by omega) (by omega)] at c_10
              try rw [show (40 : Int32) = nI 40 from rfl, nI_ltI (by omega) (by omega)] at c_18
              try rw [show (62 : Int32) = nI 62 from rfl, nI_ltI (by omega) (by omega)] at c_24
              try rw [show (32 : Int32) = nI 32 from rfl, nI_ltI (by omega) (by omega)] at c_32
              try rw [show (38 : Int32) = nI 38 from rfl, nI_ltI (by omega) (by omega)] at c_38
              have hh : shOf g = 2 := by first | (exfalso; omega) | (unfold shOf; repeat (first | rw [if_pos (by omega)] | rw [if_neg (by omega)]))
              exact cRi () hx hb hr hlocks d_Xr_shapeOf_42 hS hP hD (by rw [hh]; rfl) (Nat.le_refl _) (Nat.le_refl _)
        · refine lv_iconst (v := 3) hx hb d_Xr_shapeOf_27 (by decide) ?_
          try rw [show (69 : Int32) = nI 69 from rfl, nI_ltI (by omega) (by omega)] at c_3
          try rw [show (196 : Int32) = nI 196 from rfl, nI_ltI (by omega) (by omega)] at c_10
          try rw [show (40 : Int32) = nI 40 from rfl, nI_ltI (by omega) (by omega)] at c_18
          try rw [show (62 : Int32) = nI 62 from rfl, nI_ltI (by omega) (by omega)] at c_24
          try rw [show (32 : Int32) = nI 32 from rfl, nI_ltI (by omega) (by omega)] at c_32
          try rw [show (38 : Int32) = nI 38 from rfl, nI_ltI (by omega) (by omega)] at c_38
          have hh : shOf g = 3 := by first | (exfalso; omega) | (unfold shOf; repeat (first | rw [if_pos (by omega)] | rw [if_neg (by omega)]))
          exact cRi () hx hb hr hlocks d_Xr_shapeOf_28 hS hP hD (by rw [hh]; rfl) (Nat.le_refl _) (Nat.le_refl _)
    · refine lv_iconst (v := 1) hx hb d_Xr_shapeOf_13 (by decide) ?_
      try rw [show (69 : Int32) = nI 69 from rfl, nI_ltI (by omega) (by omega)] at c_3
      try rw [show (196 : Int32) = nI 196 from rfl, nI_ltI (by omega) (by omega)] at c_10
      try rw [show (40 : Int32) = nI 40 from rfl, nI_ltI (by omega) (by omega)] at c_18
      try rw [show (62 : Int32) = nI 62 from rfl, nI_ltI (by omega) (by omega)] at c_24
      try rw [show (32 : Int32) = nI 32 from rfl, nI_ltI (by omega) (by omega)] at c_32
      try rw [show (38 : Int32) = nI 38 from rfl, nI_ltI (by omega) (by omega)] at c_38
      have hh : shOf g = 1 := by first | (exfalso; omega) | (unfold shOf; repeat (first | rw [if_pos (by omega)] | rw [if_neg (by omega)]))
      exact cRi () hx hb hr hlocks d_Xr_shapeOf_14 hS hP hD (by rw [hh]; rfl) (Nat.le_refl _) (Nat.le_refl _)
