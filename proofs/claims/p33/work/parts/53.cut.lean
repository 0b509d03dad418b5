def tX11_init_305 (F : Nat) (h : Hp) (x0 : Nat) : Option (Hp) := cl (hR h x0 4) fun r_1 => cl (hR h x0 0) fun r_2 => cl (hR h x0 2) fun r_3 => cl (sX2_read F h r_1 r_2 r_3) fun o_4 => some o_4.2
def tX11_init_296 (F : Nat) (h : Hp) (x0 : Nat) : Option (Hp) := cl (hR h x0 0) fun r_1 => cl (sX9_appendAll F h r_1 2) fun o_2 => tX11_init_305 F o_2 x0
def tX11_init_287 (F : Nat) (h : Hp) (x0 : Nat) : Option (Hp) := cl (hR h x0 0) fun r_1 => cl (sX9_appendAll F h r_1 1) fun o_2 => tX11_init_296 F o_2 x0
def tX11_init_278 (F : Nat) (h : Hp) (x0 : Nat) : Option (Hp) := cl (hR h x0 0) fun r_1 => cl (sX9_appendAll F h r_1 0) fun o_2 => tX11_init_287 F o_2 x0
def tX11_init_263 (F : Nat) (k_245 : Hp → Nat → Int32 → Option (Hp)) (h : Hp) (x0 : Nat) (x1 : Int32) (t0 : Nat) (t1 : Int32) (t2 : Nat) : Option (Hp) := gd (inB t1 (hN h t2)) <| nm (wR h t2 t1.toNatClampNeg (some t0)) fun h_2 => nm (x1 + (1 : Int32)) fun v_3 => k_245 h_2 x0 v_3
def tX11_init_259 (F : Nat) (k_245 : Hp → Nat → Int32 → Option (Hp)) (h : Hp) (x0 : Nat) (x1 : Int32) (t0 : Nat) (t1 : Int32) (t2 : Nat) : Option (Hp) := cl (sX3_init F h t0) fun o_1 => tX11_init_263 F k_245 o_1 x0 x1 t0 t1 t2
def tX11_init_245 (F : Nat) : Nat → Hp → Nat → Int32 → Option (Hp)
  | 0, _, _, _ => none
  | f + 1, h, x0, x1 => br ((60 : Int32) ≤ x1) (cl (hR h x0 17) fun r_2 => cl (sJ7_fill_53178 F h r_2 (-1 : Int32)) fun o_3 => tX11_init_278 F o_3 x0) (cl (hR h x0 13) fun r_4 => nm (hS h) fun a_5 => nm (nC h 3 0 11) fun h_6 => tX11_init_259 F (tX11_init_245 F f) h_6 x0 x1 a_5 x1 r_4)
def tX11_init_240 (F : Nat) (h : Hp) (x0 : Nat) (t0 : Nat) (t1 : Nat) : Option (Hp) := nm (wR h t1 17 (some t0)) fun h_1 => tX11_init_245 F F h_1 x0 (0 : Int32)
def tX11_init_232 (F : Nat) (h : Hp) (x0 : Nat) (t0 : Nat) (t1 : Nat) : Option (Hp) := nm (wR h t1 16 (some t0)) fun h_1 => nm (hS h_1) fun a_2 => nm (nC h_1 17 (8 : Int32).toNatClampNeg (8 : Int32).toNatClampNeg) fun h_3 => tX11_init_240 F h_3 x0 a_2 x0
def tX11_init_223 (F : Nat) (h : Hp) (x0 : Nat) (t0 : Nat) (t1 : Nat) : Option (Hp) := nm (wR h t1 15 (some t0)) fun h_1 => nm (hS h_1) fun a_2 => nm (nC h_1 17 (2408 : Int32).toNatClampNeg (2408 : Int32).toNatClampNeg) fun h_3 => tX11_init_232 F h_3 x0 a_2 x0
def tX11_init_213 (F : Nat) (h : Hp) (x0 : Nat) (t0 : Nat) (t1 : Nat) : Option (Hp) := nm (wR h t1 14 (some t0)) fun h_1 => nm (hS h_1) fun a_2 => nm (nC h_1 20 (2408 : Int32).toNatClampNeg (2408 : Int32).toNatClampNeg) fun h_3 => tX11_init_223 F h_3 x0 a_2 x0
def tX11_init_205 (F : Nat) (h : Hp) (x0 : Nat) (t0 : Nat) (t1 : Nat) : Option (Hp) := nm (wR h t1 13 (some t0)) fun h_1 => nm (hS h_1) fun a_2 => nm (nC h_1 19 (60 : Int32).toNatClampNeg (60 : Int32).toNatClampNeg) fun h_3 => tX11_init_213 F h_3 x0 a_2 x0
def tX11_init_196 (F : Nat) (h : Hp) (x0 : Nat) (t0 : Nat) (t1 : Nat) : Option (Hp) := nm (wR h t1 12 (some t0)) fun h_1 => nm (hS h_1) fun a_2 => nm (nC h_1 20 (60 : Int32).toNatClampNeg (60 : Int32).toNatClampNeg) fun h_3 => tX11_init_205 F h_3 x0 a_2 x0
def tX11_init_187 (F : Nat) (h : Hp) (x0 : Nat) (t0 : Nat) (t1 : Nat) : Option (Hp) := nm (wR h t1 11 (some t0)) fun h_1 => nm (hS h_1) fun a_2 => nm (nC h_1 17 (4096 : Int32).toNatClampNeg (4096 : Int32).toNatClampNeg) fun h_3 => tX11_init_196 F h_3 x0 a_2 x0
def tX11_init_179 (F : Nat) (h : Hp) (x0 : Nat) (t0 : Nat) (t1 : Nat) : Option (Hp) := cl (hR h x0 6) fun r_1 => cl (sX4_init F h t0 r_1) fun o_2 => tX11_init_187 F o_2 x0 t0 t1
def tX11_init_172 (F : Nat) (h : Hp) (x0 : Nat) (t0 : Nat) (t1 : Nat) : Option (Hp) := nm (wR h t1 10 (some t0)) fun h_1 => nm (hS h_1) fun a_2 => nm (nC h_1 4 0 17) fun h_3 => tX11_init_179 F h_3 x0 a_2 x0
def tX11_init_156 (F : Nat) (h : Hp) (x0 : Nat) (t0 : Nat) (t1 : Nat) : Option (Hp) := cl (hR h x0 2) fun r_1 => cl (hR h x0 5) fun r_2 => cl (hR h x0 6) fun r_3 => cl (sX0_init F h t0 r_1 r_2 r_3) fun o_4 => tX11_init_172 F o_4 x0 t0 t1
def tX11_init_149 (F : Nat) (h : Hp) (x0 : Nat) (t0 : Nat) (t1 : Nat) : Option (Hp) := nm (wR h t1 9 (some t0)) fun h_1 => nm (hS h_1) fun a_2 => nm (nC h_1 0 0 19) fun h_3 => tX11_init_156 F h_3 x0 a_2 x0
def tX11_init_133 (F : Nat) (h : Hp) (x0 : Nat) (t0 : Nat) (t1 : Nat) : Option (Hp) := cl (hR h x0 2) fun r_1 => cl (hR h x0 5) fun r_2 => cl (hR h x0 6) fun r_3 => cl (sX6_init F h t0 r_1 r_2 r_3) fun o_4 => tX11_init_149 F o_4 x0 t0 t1
def tX11_init_126 (F : Nat) (h : Hp) (x0 : Nat) (t0 : Nat) (t1 : Nat) : Option (Hp) := nm (wR h t1 8 (some t0)) fun h_1 => nm (hS h_1) fun a_2 => nm (nC h_1 6 0 8) fun h_3 => tX11_init_133 F h_3 x0 a_2 x0
def tX11_init_114 (F : Nat) (h : Hp) (x0 : Nat) (t0 : Nat) (t1 : Nat) : Option (Hp) := cl (hR h x0 2) fun r_1 => cl (hR h x0 6) fun r_2 => cl (sX8_init F h t0 r_1 r_2) fun o_3 => tX11_init_126 F o_3 x0 t0 t1
def tX11_init_107 (F : Nat) (h : Hp) (x0 : Nat) (t0 : Nat) (t1 : Nat) : Option (Hp) := nm (wR h t1 7 (some t0)) fun h_1 => nm (hS h_1) fun a_2 => nm (nC h_1 8 0 4) fun h_3 => tX11_init_114 F h_3 x0 a_2 x0
def tX11_init_99 (F : Nat) (h : Hp) (x0 : Nat) (t0 : Nat) (t1 : Nat) : Option (Hp) := cl (hR h x0 2) fun r_1 => cl (sX7_init h t0 r_1) fun o_2 => tX11_init_107 F o_2 x0 t0 t1
def tX11_init_92 (F : Nat) (h : Hp) (x0 : Nat) (t0 : Nat) (t1 : Nat) : Option (Hp) := nm (wR h t1 6 (some t0)) fun h_1 => nm (hS h_1) fun a_2 => nm (nC h_1 7 0 3) fun h_3 => tX11_init_99 F h_3 x0 a_2 x0
def tX11_init_80 (F : Nat) (h : Hp) (x0 : Nat) (t0 : Nat) (t1 : Nat) : Option (Hp) := cl (hR h x0 2) fun r_1 => cl (hR h x0 5) fun r_2 => cl (sX5_init F h t0 r_1 r_2) fun o_3 => tX11_init_92 F o_3 x0 t0 t1
def tX11_init_73 (F : Nat) (h : Hp) (x0 : Nat) (t0 : Nat) (t1 : Nat) : Option (Hp) := nm (wR h t1 5 (some t0)) fun h_1 => nm (hS h_1) fun a_2 => nm (nC h_1 5 0 10) fun h_3 => tX11_init_80 F h_3 x0 a_2 x0
def tX11_init_69 (F : Nat) (h : Hp) (x0 : Nat) (t0 : Nat) (t1 : Nat) : Option (Hp) := cl (sX10_init h t0) fun o_1 => tX11_init_73 F o_1 x0 t0 t1
def tX11_init_62 (F : Nat) (h : Hp) (x0 : Nat) (t0 : Nat) (t1 : Nat) : Option (Hp) := nm (wR h t1 4 (some t0)) fun h_1 => nm (hS h_1) fun a_2 => nm (nC h_1 10 0 9) fun h_3 => tX11_init_69 F h_3 x0 a_2 x0
def tX11_init_58 (F : Nat) (h : Hp) (x0 : Nat) (t0 : Nat) (t1 : Nat) : Option (Hp) := cl (sX2_init h t0) fun o_1 => tX11_init_62 F o_1 x0 t0 t1
def tX11_init_51 (F : Nat) (h : Hp) (x0 : Nat) (t0 : Nat) (t1 : Nat) : Option (Hp) := nm (wR h t1 3 (some t0)) fun h_1 => nm (hS h_1) fun a_2 => nm (nC h_1 2 0 7) fun h_3 => tX11_init_58 F h_3 x0 a_2 x0
def tX11_init_47 (F : Nat) (h : Hp) (x0 : Nat) (t0 : Nat) (t1 : Nat) : Option (Hp) := cl (sX1_init h t0) fun o_1 => tX11_init_51 F o_1 x0 t0 t1
def tX11_init_40 (F : Nat) (h : Hp) (x0 : Nat) (t0 : Nat) (t1 : Nat) : Option (Hp) := nm (wR h t1 2 (some t0)) fun h_1 => nm (hS h_1) fun a_2 => nm (nC h_1 1 0 21) fun h_3 => tX11_init_47 F h_3 x0 a_2 x0
def tX11_init_36 (F : Nat) (h : Hp) (x0 : Nat) (t0 : Nat) (t1 : Nat) : Option (Hp) := cl (sX1_init h t0) fun o_1 => tX11_init_40 F o_1 x0 t0 t1
def tX11_init_29 (F : Nat) (h : Hp) (x0 : Nat) (t0 : Nat) (t1 : Nat) : Option (Hp) := nm (wR h t1 1 (some t0)) fun h_1 => nm (hS h_1) fun a_2 => nm (nC h_1 1 0 21) fun h_3 => tX11_init_36 F h_3 x0 a_2 x0
def tX11_init_22 (F : Nat) (h : Hp) (x0 : Nat) (t0 : Nat) (t1 : Nat) : Option (Hp) := cl (sX9_init h t0 (512 : Int32)) fun o_1 => tX11_init_29 F o_1 x0 t0 t1
def tX11_init_15 (F : Nat) (h : Hp) (x0 : Nat) (t0 : Nat) (t1 : Nat) : Option (Hp) := nm (wR h t1 0 (some t0)) fun h_1 => nm (hS h_1) fun a_2 => nm (nC h_1 9 0 2) fun h_3 => tX11_init_22 F h_3 x0 a_2 x0
def tX11_init_8 (F : Nat) (h : Hp) (x0 : Nat) (t0 : Nat) (t1 : Nat) : Option (Hp) := cl (sX9_init h t0 (1200 : Int32)) fun o_1 => tX11_init_15 F o_1 x0 t0 t1
def tX11_init (F : Nat) (h : Hp) (x0 : Nat) : Option (Hp) := nm (hS h) fun a_1 => nm (nC h 9 0 2) fun h_2 => tX11_init_8 F h_2 x0 a_1 x0
theorem cl_cl {α β γ : Type} (x : Option α) (k : α → Option β) (k2 : β → Option γ) : cl (cl x k) k2 = cl x (fun a => cl (k a) k2) := by
  cases x <;> rfl
theorem cl_nm {α β γ : Type} (x : α) (k : α → Option β) (k2 : β → Option γ) : cl (nm x k) k2 = nm x (fun a => cl (k a) k2) := id rfl
theorem cl_gd {β γ : Type} {c : Prop} [Decidable c] (k : Option β) (k2 : β → Option γ) : cl (gd c k) k2 = gd c (cl k k2) := by
  unfold gd; split <;> rfl
theorem cl_br {β γ : Type} {c : Prop} [Decidable c] (a b : Option β) (k2 : β → Option γ) : cl (br c a b) k2 = br c (cl a k2) (cl b k2) := by
  unfold br; split <;> rfl
theorem end_0 {F : Nat} {h : Hp} {x0 : Nat} (t0 : Int32) : sX11_init_320 F h x0 t0 = sX11_init_320 F h x0 0 := id rfl
theorem a_X11_init_305 {F : Nat} {h : Hp} {x0 : Nat}  : sX11_init_305 F h x0 = cl (tX11_init_305 F h x0) (fun q => sX11_init_320 F q x0 0) := by
  simp only [sX11_init_305, tX11_init_305, cl_cl, cl_nm, cl_gd, cl_br, cl_some, end_0]
theorem a_X11_init_296 {F : Nat} {h : Hp} {x0 : Nat}  : sX11_init_296 F h x0 = cl (tX11_init_296 F h x0) (fun q => sX11_init_320 F q x0 0) := by
  simp only [sX11_init_296, tX11_init_296, a_X11_init_305, cl_cl, cl_nm, cl_gd, cl_br, cl_some]
theorem a_X11_init_287 {F : Nat} {h : Hp} {x0 : Nat}  : sX11_init_287 F h x0 = cl (tX11_init_287 F h x0) (fun q => sX11_init_320 F q x0 0) := by
  simp only [sX11_init_287, tX11_init_287, a_X11_init_296, cl_cl, cl_nm, cl_gd, cl_br, cl_some]
theorem a_X11_init_278 {F : Nat} {h : Hp} {x0 : Nat}  : sX11_init_278 F h x0 = cl (tX11_init_278 F h x0) (fun q => sX11_init_320 F q x0 0) := by
  simp only [sX11_init_278, tX11_init_278, a_X11_init_287, cl_cl, cl_nm, cl_gd, cl_br, cl_some]
theorem a_X11_init_263 {F : Nat} {k_245 : Hp → Nat → Int32 → Option (Hp)} {k_245_ : Hp → Nat → Int32 → Option (Hp)} {h : Hp} {x0 : Nat} {x1 : Int32} {t0 : Nat} {t1 : Int32} {t2 : Nat} (hk_245 : ∀ (q : Hp) (y : Nat) (v : Int32), k_245 q y v = cl (k_245_ q y v) (fun q => sX11_init_320 F q y 0)) : sX11_init_263 F k_245 h x0 x1 t0 t1 t2 = cl (tX11_init_263 F k_245_ h x0 x1 t0 t1 t2) (fun q => sX11_init_320 F q x0 0) := by
  simp only [sX11_init_263, tX11_init_263, hk_245, cl_cl, cl_nm, cl_gd, cl_br, cl_some]
theorem a_X11_init_259 {F : Nat} {k_245 : Hp → Nat → Int32 → Option (Hp)} {k_245_ : Hp → Nat → Int32 → Option (Hp)} {h : Hp} {x0 : Nat} {x1 : Int32} {t0 : Nat} {t1 : Int32} {t2 : Nat} (hk_245 : ∀ (q : Hp) (y : Nat) (v : Int32), k_245 q y v = cl (k_245_ q y v) (fun q => sX11_init_320 F q y 0)) : sX11_init_259 F k_245 h x0 x1 t0 t1 t2 = cl (tX11_init_259 F k_245_ h x0 x1 t0 t1 t2) (fun q => sX11_init_320 F q x0 0) := by
  simp only [sX11_init_259, tX11_init_259, (a_X11_init_263 hk_245), hk_245, cl_cl, cl_nm, cl_gd, cl_br, cl_some]
theorem a_X11_init_245 {F : Nat} : ∀ (f : Nat) (q : Hp) (y : Nat) (v : Int32), sX11_init_245 F f q y v = cl (tX11_init_245 F f q y v) (fun q => sX11_init_320 F q y 0) := by
  intro f
  induction f with
  | zero => intros; rfl
  | succ f ih =>
    intro q y v
    simp only [sX11_init_245, tX11_init_245, a_X11_init_278, (a_X11_init_259 ih), cl_cl, cl_nm, cl_gd, cl_br, cl_some]
theorem a_X11_init_240 {F : Nat} {h : Hp} {x0 : Nat} {t0 : Nat} {t1 : Nat}  : sX11_init_240 F h x0 t0 t1 = cl (tX11_init_240 F h x0 t0 t1) (fun q => sX11_init_320 F q x0 0) := by
  simp only [sX11_init_240, tX11_init_240, a_X11_init_245, cl_cl, cl_nm, cl_gd, cl_br, cl_some]
theorem a_X11_init_232 {F : Nat} {h : Hp} {x0 : Nat} {t0 : Nat} {t1 : Nat}  : sX11_init_232 F h x0 t0 t1 = cl (tX11_init_232 F h x0 t0 t1) (fun q => sX11_init_320 F q x0 0) := by
  simp only [sX11_init_232, tX11_init_232, a_X11_init_240, cl_cl, cl_nm, cl_gd, cl_br, cl_some]
theorem a_X11_init_223 {F : Nat} {h : Hp} {x0 : Nat} {t0 : Nat} {t1 : Nat}  : sX11_init_223 F h x0 t0 t1 = cl (tX11_init_223 F h x0 t0 t1) (fun q => sX11_init_320 F q x0 0) := by
  simp only [sX11_init_223, tX11_init_223, a_X11_init_232, cl_cl, cl_nm, cl_gd, cl_br, cl_some]
theorem a_X11_init_213 {F : Nat} {h : Hp} {x0 : Nat} {t0 : Nat} {t1 : Nat}  : sX11_init_213 F h x0 t0 t1 = cl (tX11_init_213 F h x0 t0 t1) (fun q => sX11_init_320 F q x0 0) := by
  simp only [sX11_init_213, tX11_init_213, a_X11_init_223, cl_cl, cl_nm, cl_gd, cl_br, cl_some]
theorem a_X11_init_205 {F : Nat} {h : Hp} {x0 : Nat} {t0 : Nat} {t1 : Nat}  : sX11_init_205 F h x0 t0 t1 = cl (tX11_init_205 F h x0 t0 t1) (fun q => sX11_init_320 F q x0 0) := by
  simp only [sX11_init_205, tX11_init_205, a_X11_init_213, cl_cl, cl_nm, cl_gd, cl_br, cl_some]
theorem a_X11_init_196 {F : Nat} {h : Hp} {x0 : Nat} {t0 : Nat} {t1 : Nat}  : sX11_init_196 F h x0 t0 t1 = cl (tX11_init_196 F h x0 t0 t1) (fun q => sX11_init_320 F q x0 0) := by
  simp only [sX11_init_196, tX11_init_196, a_X11_init_205, cl_cl, cl_nm, cl_gd, cl_br, cl_some]
theorem a_X11_init_187 {F : Nat} {h : Hp} {x0 : Nat} {t0 : Nat} {t1 : Nat}  : sX11_init_187 F h x0 t0 t1 = cl (tX11_init_187 F h x0 t0 t1) (fun q => sX11_init_320 F q x0 0) := by
  simp only [sX11_init_187, tX11_init_187, a_X11_init_196, cl_cl, cl_nm, cl_gd, cl_br, cl_some]
theorem a_X11_init_179 {F : Nat} {h : Hp} {x0 : Nat} {t0 : Nat} {t1 : Nat}  : sX11_init_179 F h x0 t0 t1 = cl (tX11_init_179 F h x0 t0 t1) (fun q => sX11_init_320 F q x0 0) := by
  simp only [sX11_init_179, tX11_init_179, a_X11_init_187, cl_cl, cl_nm, cl_gd, cl_br, cl_some]
theorem a_X11_init_172 {F : Nat} {h : Hp} {x0 : Nat} {t0 : Nat} {t1 : Nat}  : sX11_init_172 F h x0 t0 t1 = cl (tX11_init_172 F h x0 t0 t1) (fun q => sX11_init_320 F q x0 0) := by
  simp only [sX11_init_172, tX11_init_172, a_X11_init_179, cl_cl, cl_nm, cl_gd, cl_br, cl_some]
theorem a_X11_init_156 {F : Nat} {h : Hp} {x0 : Nat} {t0 : Nat} {t1 : Nat}  : sX11_init_156 F h x0 t0 t1 = cl (tX11_init_156 F h x0 t0 t1) (fun q => sX11_init_320 F q x0 0) := by
  simp only [sX11_init_156, tX11_init_156, a_X11_init_172, cl_cl, cl_nm, cl_gd, cl_br, cl_some]
theorem a_X11_init_149 {F : Nat} {h : Hp} {x0 : Nat} {t0 : Nat} {t1 : Nat}  : sX11_init_149 F h x0 t0 t1 = cl (tX11_init_149 F h x0 t0 t1) (fun q => sX11_init_320 F q x0 0) := by
  simp only [sX11_init_149, tX11_init_149, a_X11_init_156, cl_cl, cl_nm, cl_gd, cl_br, cl_some]
theorem a_X11_init_133 {F : Nat} {h : Hp} {x0 : Nat} {t0 : Nat} {t1 : Nat}  : sX11_init_133 F h x0 t0 t1 = cl (tX11_init_133 F h x0 t0 t1) (fun q => sX11_init_320 F q x0 0) := by
  simp only [sX11_init_133, tX11_init_133, a_X11_init_149, cl_cl, cl_nm, cl_gd, cl_br, cl_some]
theorem a_X11_init_126 {F : Nat} {h : Hp} {x0 : Nat} {t0 : Nat} {t1 : Nat}  : sX11_init_126 F h x0 t0 t1 = cl (tX11_init_126 F h x0 t0 t1) (fun q => sX11_init_320 F q x0 0) := by
  simp only [sX11_init_126, tX11_init_126, a_X11_init_133, cl_cl, cl_nm, cl_gd, cl_br, cl_some]
theorem a_X11_init_114 {F : Nat} {h : Hp} {x0 : Nat} {t0 : Nat} {t1 : Nat}  : sX11_init_114 F h x0 t0 t1 = cl (tX11_init_114 F h x0 t0 t1) (fun q => sX11_init_320 F q x0 0) := by
  simp only [sX11_init_114, tX11_init_114, a_X11_init_126, cl_cl, cl_nm, cl_gd, cl_br, cl_some]
theorem a_X11_init_107 {F : Nat} {h : Hp} {x0 : Nat} {t0 : Nat} {t1 : Nat}  : sX11_init_107 F h x0 t0 t1 = cl (tX11_init_107 F h x0 t0 t1) (fun q => sX11_init_320 F q x0 0) := by
  simp only [sX11_init_107, tX11_init_107, a_X11_init_114, cl_cl, cl_nm, cl_gd, cl_br, cl_some]
theorem a_X11_init_99 {F : Nat} {h : Hp} {x0 : Nat} {t0 : Nat} {t1 : Nat}  : sX11_init_99 F h x0 t0 t1 = cl (tX11_init_99 F h x0 t0 t1) (fun q => sX11_init_320 F q x0 0) := by
  simp only [sX11_init_99, tX11_init_99, a_X11_init_107, cl_cl, cl_nm, cl_gd, cl_br, cl_some]
theorem a_X11_init_92 {F : Nat} {h : Hp} {x0 : Nat} {t0 : Nat} {t1 : Nat}  : sX11_init_92 F h x0 t0 t1 = cl (tX11_init_92 F h x0 t0 t1) (fun q => sX11_init_320 F q x0 0) := by
  simp only [sX11_init_92, tX11_init_92, a_X11_init_99, cl_cl, cl_nm, cl_gd, cl_br, cl_some]
theorem a_X11_init_80 {F : Nat} {h : Hp} {x0 : Nat} {t0 : Nat} {t1 : Nat}  : sX11_init_80 F h x0 t0 t1 = cl (tX11_init_80 F h x0 t0 t1) (fun q => sX11_init_320 F q x0 0) := by
  simp only [sX11_init_80, tX11_init_80, a_X11_init_92, cl_cl, cl_nm, cl_gd, cl_br, cl_some]
theorem a_X11_init_73 {F : Nat} {h : Hp} {x0 : Nat} {t0 : Nat} {t1 : Nat}  : sX11_init_73 F h x0 t0 t1 = cl (tX11_init_73 F h x0 t0 t1) (fun q => sX11_init_320 F q x0 0) := by
  simp only [sX11_init_73, tX11_init_73, a_X11_init_80, cl_cl, cl_nm, cl_gd, cl_br, cl_some]
theorem a_X11_init_69 {F : Nat} {h : Hp} {x0 : Nat} {t0 : Nat} {t1 : Nat}  : sX11_init_69 F h x0 t0 t1 = cl (tX11_init_69 F h x0 t0 t1) (fun q => sX11_init_320 F q x0 0) := by
  simp only [sX11_init_69, tX11_init_69, a_X11_init_73, cl_cl, cl_nm, cl_gd, cl_br, cl_some]
theorem a_X11_init_62 {F : Nat} {h : Hp} {x0 : Nat} {t0 : Nat} {t1 : Nat}  : sX11_init_62 F h x0 t0 t1 = cl (tX11_init_62 F h x0 t0 t1) (fun q => sX11_init_320 F q x0 0) := by
  simp only [sX11_init_62, tX11_init_62, a_X11_init_69, cl_cl, cl_nm, cl_gd, cl_br, cl_some]
theorem a_X11_init_58 {F : Nat} {h : Hp} {x0 : Nat} {t0 : Nat} {t1 : Nat}  : sX11_init_58 F h x0 t0 t1 = cl (tX11_init_58 F h x0 t0 t1) (fun q => sX11_init_320 F q x0 0) := by
  simp only [sX11_init_58, tX11_init_58, a_X11_init_62, cl_cl, cl_nm, cl_gd, cl_br, cl_some]
theorem a_X11_init_51 {F : Nat} {h : Hp} {x0 : Nat} {t0 : Nat} {t1 : Nat}  : sX11_init_51 F h x0 t0 t1 = cl (tX11_init_51 F h x0 t0 t1) (fun q => sX11_init_320 F q x0 0) := by
  simp only [sX11_init_51, tX11_init_51, a_X11_init_58, cl_cl, cl_nm, cl_gd, cl_br, cl_some]
theorem a_X11_init_47 {F : Nat} {h : Hp} {x0 : Nat} {t0 : Nat} {t1 : Nat}  : sX11_init_47 F h x0 t0 t1 = cl (tX11_init_47 F h x0 t0 t1) (fun q => sX11_init_320 F q x0 0) := by
  simp only [sX11_init_47, tX11_init_47, a_X11_init_51, cl_cl, cl_nm, cl_gd, cl_br, cl_some]
theorem a_X11_init_40 {F : Nat} {h : Hp} {x0 : Nat} {t0 : Nat} {t1 : Nat}  : sX11_init_40 F h x0 t0 t1 = cl (tX11_init_40 F h x0 t0 t1) (fun q => sX11_init_320 F q x0 0) := by
  simp only [sX11_init_40, tX11_init_40, a_X11_init_47, cl_cl, cl_nm, cl_gd, cl_br, cl_some]
theorem a_X11_init_36 {F : Nat} {h : Hp} {x0 : Nat} {t0 : Nat} {t1 : Nat}  : sX11_init_36 F h x0 t0 t1 = cl (tX11_init_36 F h x0 t0 t1) (fun q => sX11_init_320 F q x0 0) := by
  simp only [sX11_init_36, tX11_init_36, a_X11_init_40, cl_cl, cl_nm, cl_gd, cl_br, cl_some]
theorem a_X11_init_29 {F : Nat} {h : Hp} {x0 : Nat} {t0 : Nat} {t1 : Nat}  : sX11_init_29 F h x0 t0 t1 = cl (tX11_init_29 F h x0 t0 t1) (fun q => sX11_init_320 F q x0 0) := by
  simp only [sX11_init_29, tX11_init_29, a_X11_init_36, cl_cl, cl_nm, cl_gd, cl_br, cl_some]
theorem a_X11_init_22 {F : Nat} {h : Hp} {x0 : Nat} {t0 : Nat} {t1 : Nat}  : sX11_init_22 F h x0 t0 t1 = cl (tX11_init_22 F h x0 t0 t1) (fun q => sX11_init_320 F q x0 0) := by
  simp only [sX11_init_22, tX11_init_22, a_X11_init_29, cl_cl, cl_nm, cl_gd, cl_br, cl_some]
theorem a_X11_init_15 {F : Nat} {h : Hp} {x0 : Nat} {t0 : Nat} {t1 : Nat}  : sX11_init_15 F h x0 t0 t1 = cl (tX11_init_15 F h x0 t0 t1) (fun q => sX11_init_320 F q x0 0) := by
  simp only [sX11_init_15, tX11_init_15, a_X11_init_22, cl_cl, cl_nm, cl_gd, cl_br, cl_some]
theorem a_X11_init_8 {F : Nat} {h : Hp} {x0 : Nat} {t0 : Nat} {t1 : Nat}  : sX11_init_8 F h x0 t0 t1 = cl (tX11_init_8 F h x0 t0 t1) (fun q => sX11_init_320 F q x0 0) := by
  simp only [sX11_init_8, tX11_init_8, a_X11_init_15, cl_cl, cl_nm, cl_gd, cl_br, cl_some]
theorem a_X11_init {F : Nat} {h : Hp} {x0 : Nat}  : sX11_init F h x0 = cl (tX11_init F h x0) (fun q => sX11_init_320 F q x0 0) := by
  simp only [sX11_init, tX11_init, a_X11_init_8, cl_cl, cl_nm, cl_gd, cl_br, cl_some]
