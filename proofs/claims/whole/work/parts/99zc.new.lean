theorem zob_i : Cond.instanceMethod Lib.objectInit ∈ zT := zk_1 25 rfl rfl
theorem zob_c : Cond.code Lib.objectInit ⟨#[0xb1]⟩ 1 none ∈ zT := zk_1 26 rfl rfl
theorem ii_Nc : Cond.initialized "NestedClips" ∈ zT := zk_1 1 rfl rfl
theorem ii_Sh : Cond.initialized "NestedClips$Show" ∈ zT := zk_1 2 rfl rfl
theorem ii_La : Cond.initialized "NestedClips$Layout" ∈ zT := zk_1 3 rfl rfl
theorem ii_Sg : Cond.initialized "NestedClips$Stage" ∈ zT := zk_1 4 rfl rfl
theorem ii_Mo : Cond.initialized "NestedClips$Moment" ∈ zT := zk_1 5 rfl rfl
theorem ii_Sr : Cond.initialized "NestedClips$Stretch" ∈ zT := zk_1 6 rfl rfl
theorem ii_Pa : Cond.initialized "NestedClips$Past" ∈ zT := zk_1 7 rfl rfl
theorem ii_Ta : Cond.initialized "NestedClips$Tape" ∈ zT := zk_1 8 rfl rfl
theorem ii_Rd : Cond.initialized "NestedClips$Reader" ∈ zT := zk_1 9 rfl rfl
theorem ii_Re : Cond.initialized "NestedClips$Reel" ∈ zT := zk_1 10 rfl rfl
theorem ii_Md : Cond.initialized "NestedClipsModel" ∈ zT := zk_1 12 rfl rfl
theorem cl_Lw_7 : Cond.classLink "NestedClipsLaw" 7 "NestedClips" ∈ zT := zk_1 19 rfl rfl
theorem in_Nc : Cond.instantiable "NestedClips" 13 ∈ zT := zk_1 20 rfl rfl
theorem lo_Nc : Cond.methodLink "NestedClips" 1 Lib.objectInit ∈ zT := zk_1 24 rfl rfl
theorem cl_Nc_7 : Cond.classLink "NestedClips" 7 "NestedClips$Show" ∈ zT := zk_1 27 rfl rfl
theorem in_Sh : Cond.instantiable "NestedClips$Show" 11 ∈ zT := zk_1 28 rfl rfl
theorem lo_Sh : Cond.methodLink "NestedClips$Show" 3 Lib.objectInit ∈ zT := zk_1 32 rfl rfl
theorem ac_int : Cond.arrayClass .int ∈ zT := zk_1 94 rfl rfl
theorem cl_Nc_19 : Cond.classLink "NestedClips" 19 "NestedClips$Layout" ∈ zT := zk_1 95 rfl rfl
theorem in_La : Cond.instantiable "NestedClips$Layout" 6 ∈ zT := zk_1 96 rfl rfl
theorem lo_La : Cond.methodLink "NestedClips$Layout" 3 Lib.objectInit ∈ zT := zk_1 100 rfl rfl
theorem ac_boolean : Cond.arrayClass .boolean ∈ zT := zk_1 132 rfl rfl
theorem cl_Nc_29 : Cond.classLink "NestedClips" 29 "NestedClips$Stage" ∈ zT := zk_1 133 rfl rfl
theorem in_Sg : Cond.instantiable "NestedClips$Stage" 8 ∈ zT := zk_1 134 rfl rfl
theorem lo_Sg : Cond.methodLink "NestedClips$Stage" 3 Lib.objectInit ∈ zT := zk_1 138 rfl rfl
theorem cl_Sg_9 : Cond.classLink "NestedClips$Stage" 9 "NestedClips$Moment" ∈ zT := zk_1 139 rfl rfl
theorem in_Mo : Cond.instantiable "NestedClips$Moment" 9 ∈ zT := zk_1 140 rfl rfl
theorem lo_Mo : Cond.methodLink "NestedClips$Moment" 3 Lib.objectInit ∈ zT := zk_1 144 rfl rfl
theorem cl_Nc_38 : Cond.classLink "NestedClips" 38 "NestedClips$Stretch" ∈ zT := zk_1 219 rfl rfl
theorem in_Sr : Cond.instantiable "NestedClips$Stretch" 6 ∈ zT := zk_1 220 rfl rfl
theorem lo_Sr : Cond.methodLink "NestedClips$Stretch" 3 Lib.objectInit ∈ zT := zk_1 224 rfl rfl
theorem cl_Nc_47 : Cond.classLink "NestedClips" 47 "NestedClips$Past" ∈ zT := zk_2 8 rfl rfl
theorem in_Pa : Cond.instantiable "NestedClips$Past" 3 ∈ zT := zk_2 9 rfl rfl
theorem lo_Pa : Cond.methodLink "NestedClips$Past" 3 Lib.objectInit ∈ zT := zk_2 13 rfl rfl
theorem cl_Pa_9 : Cond.classLink "NestedClips$Past" 9 "NestedClips$Show" ∈ zT := zk_2 14 rfl rfl
theorem cl_Nc_54 : Cond.classLink "NestedClips" 54 "NestedClips$Tape" ∈ zT := zk_2 28 rfl rfl
theorem in_Ta : Cond.instantiable "NestedClips$Tape" 2 ∈ zT := zk_2 29 rfl rfl
theorem lo_Ta : Cond.methodLink "NestedClips$Tape" 3 Lib.objectInit ∈ zT := zk_2 33 rfl rfl
theorem cl_Nc_61 : Cond.classLink "NestedClips" 61 "NestedClips$Reader" ∈ zT := zk_2 43 rfl rfl
theorem in_Rd : Cond.instantiable "NestedClips$Reader" 15 ∈ zT := zk_2 44 rfl rfl
theorem lo_Rd : Cond.methodLink "NestedClips$Reader" 5 Lib.objectInit ∈ zT := zk_2 48 rfl rfl
theorem ac_long : Cond.arrayClass .long ∈ zT := zk_2 97 rfl rfl
theorem cl_Nc_70 : Cond.classLink "NestedClips" 70 "NestedClips$Reel" ∈ zT := zk_2 98 rfl rfl
theorem in_Re : Cond.instantiable "NestedClips$Reel" 8 ∈ zT := zk_2 99 rfl rfl
theorem lo_Re : Cond.methodLink "NestedClips$Reel" 3 Lib.objectInit ∈ zT := zk_2 103 rfl rfl
theorem ac_byte : Cond.arrayClass .byte ∈ zT := zk_4 32 rfl rfl
theorem cl_Lw_10 : Cond.classLink "NestedClipsLaw" 10 "NestedClipsModel" ∈ zT := zk_5 167 rfl rfl
theorem in_Md : Cond.instantiable "NestedClipsModel" 50 ∈ zT := zk_5 168 rfl rfl
theorem lo_Md : Cond.methodLink "NestedClipsModel" 1 Lib.objectInit ∈ zT := zk_5 172 rfl rfl
def zd0 (t : FieldType) : Option Nat ⊕ FieldType := match t with
  | .int => .inr .int
  | .boolean => .inr .int
  | .byte => .inr .int
  | .long => .inr .long
  | .object _ => .inl none
  | .array _ => .inl none
  | t => .inr t
theorem df_gen (G : zG) {ty : Nat → FieldType} {fl : List (Option Nat ⊕ FieldType)} {N : Nat} (hl : ∀ j, j < N → fl[j]? = some (zd0 (ty j)) ∧ (ty j = .int ∨ ty j = .boolean ∨ ty j = .byte ∨ ty j = .long ∨ (∃ c, ty j = .object c) ∨ ∃ c, ty j = .array c)) : ∀ j, j < N → defaultValue (ty j) = vp_V (fl.mapIdx (zFld G (fun _ => 0))) j := by
  intro j hj
  obtain ⟨h1, h2⟩ := hl j hj
  unfold vp_V
  rw [List.getD_eq_getElem?_getD, List.getElem?_mapIdx, h1]
  rcases h2 with e | e | e | e | ⟨c, e⟩ | ⟨c, e⟩ <;> rw [e] <;> rfl
def z0_La : List (Option Nat ⊕ FieldType) := [.inl none, .inl none, .inl none, .inl none, .inl none, .inr .int]
theorem df_La (G : zG) : ∀ j, j < 6 → defaultValue (t_La j) = vp_V (z0_La.mapIdx (zFld G (fun _ => 0))) j := df_gen G (fun j hj => by
  match j, hj with
  | 0, _ => exact ⟨rfl, Or.inr (Or.inr (Or.inr (Or.inr (Or.inr ⟨_, rfl⟩))))⟩
  | 1, _ => exact ⟨rfl, Or.inr (Or.inr (Or.inr (Or.inr (Or.inr ⟨_, rfl⟩))))⟩
  | 2, _ => exact ⟨rfl, Or.inr (Or.inr (Or.inr (Or.inr (Or.inr ⟨_, rfl⟩))))⟩
  | 3, _ => exact ⟨rfl, Or.inr (Or.inr (Or.inr (Or.inr (Or.inr ⟨_, rfl⟩))))⟩
  | 4, _ => exact ⟨rfl, Or.inr (Or.inr (Or.inr (Or.inr (Or.inr ⟨_, rfl⟩))))⟩
  | 5, _ => exact ⟨rfl, Or.inl rfl⟩
  | j + 6, h => exact absurd h (by omega))
def z0_Mo : List (Option Nat ⊕ FieldType) := [.inr .int, .inr .int, .inl none, .inl none, .inl none, .inl none, .inl none, .inl none, .inl none]
theorem df_Mo (G : zG) : ∀ j, j < 9 → defaultValue (t_Mo j) = vp_V (z0_Mo.mapIdx (zFld G (fun _ => 0))) j := df_gen G (fun j hj => by
  match j, hj with
  | 0, _ => exact ⟨rfl, Or.inl rfl⟩
  | 1, _ => exact ⟨rfl, Or.inl rfl⟩
  | 2, _ => exact ⟨rfl, Or.inr (Or.inr (Or.inr (Or.inr (Or.inr ⟨_, rfl⟩))))⟩
  | 3, _ => exact ⟨rfl, Or.inr (Or.inr (Or.inr (Or.inr (Or.inr ⟨_, rfl⟩))))⟩
  | 4, _ => exact ⟨rfl, Or.inr (Or.inr (Or.inr (Or.inr (Or.inr ⟨_, rfl⟩))))⟩
  | 5, _ => exact ⟨rfl, Or.inr (Or.inr (Or.inr (Or.inr (Or.inr ⟨_, rfl⟩))))⟩
  | 6, _ => exact ⟨rfl, Or.inr (Or.inr (Or.inr (Or.inr (Or.inr ⟨_, rfl⟩))))⟩
  | 7, _ => exact ⟨rfl, Or.inr (Or.inr (Or.inr (Or.inr (Or.inr ⟨_, rfl⟩))))⟩
  | 8, _ => exact ⟨rfl, Or.inr (Or.inr (Or.inr (Or.inr (Or.inr ⟨_, rfl⟩))))⟩
  | j + 9, h => exact absurd h (by omega))
def z0_Pa : List (Option Nat ⊕ FieldType) := [.inl none, .inr .int, .inr .int]
theorem df_Pa (G : zG) : ∀ j, j < 3 → defaultValue (t_Pa j) = vp_V (z0_Pa.mapIdx (zFld G (fun _ => 0))) j := df_gen G (fun j hj => by
  match j, hj with
  | 0, _ => exact ⟨rfl, Or.inr (Or.inr (Or.inr (Or.inr (Or.inr ⟨_, rfl⟩))))⟩
  | 1, _ => exact ⟨rfl, Or.inl rfl⟩
  | 2, _ => exact ⟨rfl, Or.inl rfl⟩
  | j + 3, h => exact absurd h (by omega))
def z0_Rd : List (Option Nat ⊕ FieldType) := [.inl none, .inl none, .inl none, .inr .int, .inr .int, .inr .int, .inr .int, .inr .long, .inl none, .inl none, .inr .int, .inr .int, .inr .int, .inr .int, .inr .int]
theorem df_Rd (G : zG) : ∀ j, j < 15 → defaultValue (t_Rd j) = vp_V (z0_Rd.mapIdx (zFld G (fun _ => 0))) j := df_gen G (fun j hj => by
  match j, hj with
  | 0, _ => exact ⟨rfl, Or.inr (Or.inr (Or.inr (Or.inr (Or.inl ⟨_, rfl⟩))))⟩
  | 1, _ => exact ⟨rfl, Or.inr (Or.inr (Or.inr (Or.inr (Or.inl ⟨_, rfl⟩))))⟩
  | 2, _ => exact ⟨rfl, Or.inr (Or.inr (Or.inr (Or.inr (Or.inl ⟨_, rfl⟩))))⟩
  | 3, _ => exact ⟨rfl, Or.inl rfl⟩
  | 4, _ => exact ⟨rfl, Or.inl rfl⟩
  | 5, _ => exact ⟨rfl, Or.inl rfl⟩
  | 6, _ => exact ⟨rfl, Or.inl rfl⟩
  | 7, _ => exact ⟨rfl, Or.inr (Or.inr (Or.inr (Or.inl rfl)))⟩
  | 8, _ => exact ⟨rfl, Or.inr (Or.inr (Or.inr (Or.inr (Or.inr ⟨_, rfl⟩))))⟩
  | 9, _ => exact ⟨rfl, Or.inr (Or.inr (Or.inr (Or.inr (Or.inr ⟨_, rfl⟩))))⟩
  | 10, _ => exact ⟨rfl, Or.inl rfl⟩
  | 11, _ => exact ⟨rfl, Or.inl rfl⟩
  | 12, _ => exact ⟨rfl, Or.inl rfl⟩
  | 13, _ => exact ⟨rfl, Or.inl rfl⟩
  | 14, _ => exact ⟨rfl, Or.inl rfl⟩
  | j + 15, h => exact absurd h (by omega))
def z0_Re : List (Option Nat ⊕ FieldType) := [.inr .int, .inr .int, .inl none, .inl none, .inl none, .inl none, .inl none, .inl none]
theorem df_Re (G : zG) : ∀ j, j < 8 → defaultValue (t_Re j) = vp_V (z0_Re.mapIdx (zFld G (fun _ => 0))) j := df_gen G (fun j hj => by
  match j, hj with
  | 0, _ => exact ⟨rfl, Or.inl rfl⟩
  | 1, _ => exact ⟨rfl, Or.inl rfl⟩
  | 2, _ => exact ⟨rfl, Or.inr (Or.inr (Or.inr (Or.inr (Or.inr ⟨_, rfl⟩))))⟩
  | 3, _ => exact ⟨rfl, Or.inr (Or.inr (Or.inr (Or.inr (Or.inr ⟨_, rfl⟩))))⟩
  | 4, _ => exact ⟨rfl, Or.inr (Or.inr (Or.inr (Or.inr (Or.inr ⟨_, rfl⟩))))⟩
  | 5, _ => exact ⟨rfl, Or.inr (Or.inr (Or.inr (Or.inr (Or.inr ⟨_, rfl⟩))))⟩
  | 6, _ => exact ⟨rfl, Or.inr (Or.inr (Or.inr (Or.inr (Or.inr ⟨_, rfl⟩))))⟩
  | 7, _ => exact ⟨rfl, Or.inr (Or.inr (Or.inr (Or.inr (Or.inr ⟨_, rfl⟩))))⟩
  | j + 8, h => exact absurd h (by omega))
def z0_Sh : List (Option Nat ⊕ FieldType) := [.inr .int, .inl none, .inl none, .inl none, .inl none, .inl none, .inl none, .inl none, .inr .int, .inl none, .inl none]
theorem df_Sh (G : zG) : ∀ j, j < 11 → defaultValue (t_Sh j) = vp_V (z0_Sh.mapIdx (zFld G (fun _ => 0))) j := df_gen G (fun j hj => by
  match j, hj with
  | 0, _ => exact ⟨rfl, Or.inl rfl⟩
  | 1, _ => exact ⟨rfl, Or.inr (Or.inr (Or.inr (Or.inr (Or.inr ⟨_, rfl⟩))))⟩
  | 2, _ => exact ⟨rfl, Or.inr (Or.inr (Or.inr (Or.inr (Or.inr ⟨_, rfl⟩))))⟩
  | 3, _ => exact ⟨rfl, Or.inr (Or.inr (Or.inr (Or.inr (Or.inr ⟨_, rfl⟩))))⟩
  | 4, _ => exact ⟨rfl, Or.inr (Or.inr (Or.inr (Or.inr (Or.inr ⟨_, rfl⟩))))⟩
  | 5, _ => exact ⟨rfl, Or.inr (Or.inr (Or.inr (Or.inr (Or.inr ⟨_, rfl⟩))))⟩
  | 6, _ => exact ⟨rfl, Or.inr (Or.inr (Or.inr (Or.inr (Or.inr ⟨_, rfl⟩))))⟩
  | 7, _ => exact ⟨rfl, Or.inr (Or.inr (Or.inr (Or.inr (Or.inr ⟨_, rfl⟩))))⟩
  | 8, _ => exact ⟨rfl, Or.inl rfl⟩
  | 9, _ => exact ⟨rfl, Or.inr (Or.inr (Or.inr (Or.inr (Or.inr ⟨_, rfl⟩))))⟩
  | 10, _ => exact ⟨rfl, Or.inr (Or.inr (Or.inr (Or.inr (Or.inr ⟨_, rfl⟩))))⟩
  | j + 11, h => exact absurd h (by omega))
def z0_Sg : List (Option Nat ⊕ FieldType) := [.inl none, .inl none, .inl none, .inl none, .inl none, .inl none, .inr .int, .inr .int]
theorem df_Sg (G : zG) : ∀ j, j < 8 → defaultValue (t_Sg j) = vp_V (z0_Sg.mapIdx (zFld G (fun _ => 0))) j := df_gen G (fun j hj => by
  match j, hj with
  | 0, _ => exact ⟨rfl, Or.inr (Or.inr (Or.inr (Or.inr (Or.inl ⟨_, rfl⟩))))⟩
  | 1, _ => exact ⟨rfl, Or.inr (Or.inr (Or.inr (Or.inr (Or.inl ⟨_, rfl⟩))))⟩
  | 2, _ => exact ⟨rfl, Or.inr (Or.inr (Or.inr (Or.inr (Or.inl ⟨_, rfl⟩))))⟩
  | 3, _ => exact ⟨rfl, Or.inr (Or.inr (Or.inr (Or.inr (Or.inr ⟨_, rfl⟩))))⟩
  | 4, _ => exact ⟨rfl, Or.inr (Or.inr (Or.inr (Or.inr (Or.inr ⟨_, rfl⟩))))⟩
  | 5, _ => exact ⟨rfl, Or.inr (Or.inr (Or.inr (Or.inr (Or.inr ⟨_, rfl⟩))))⟩
  | 6, _ => exact ⟨rfl, Or.inl rfl⟩
  | 7, _ => exact ⟨rfl, Or.inl rfl⟩
  | j + 8, h => exact absurd h (by omega))
def z0_Sr : List (Option Nat ⊕ FieldType) := [.inl none, .inl none, .inr .int, .inr .int, .inr .int, .inr .int]
theorem df_Sr (G : zG) : ∀ j, j < 6 → defaultValue (t_Sr j) = vp_V (z0_Sr.mapIdx (zFld G (fun _ => 0))) j := df_gen G (fun j hj => by
  match j, hj with
  | 0, _ => exact ⟨rfl, Or.inr (Or.inr (Or.inr (Or.inr (Or.inl ⟨_, rfl⟩))))⟩
  | 1, _ => exact ⟨rfl, Or.inr (Or.inr (Or.inr (Or.inr (Or.inr ⟨_, rfl⟩))))⟩
  | 2, _ => exact ⟨rfl, Or.inl rfl⟩
  | 3, _ => exact ⟨rfl, Or.inl rfl⟩
  | 4, _ => exact ⟨rfl, Or.inl rfl⟩
  | 5, _ => exact ⟨rfl, Or.inl rfl⟩
  | j + 6, h => exact absurd h (by omega))
def z0_Ta : List (Option Nat ⊕ FieldType) := [.inl none, .inr .int]
theorem df_Ta (G : zG) : ∀ j, j < 2 → defaultValue (t_Ta j) = vp_V (z0_Ta.mapIdx (zFld G (fun _ => 0))) j := df_gen G (fun j hj => by
  match j, hj with
  | 0, _ => exact ⟨rfl, Or.inr (Or.inr (Or.inr (Or.inr (Or.inr ⟨_, rfl⟩))))⟩
  | 1, _ => exact ⟨rfl, Or.inl rfl⟩
  | j + 2, h => exact absurd h (by omega))
def z0_Nc : List (Option Nat ⊕ FieldType) := [.inl none, .inl none, .inl none, .inl none, .inl none, .inl none, .inl none, .inl none, .inl none, .inl none, .inr .int, .inr .int, .inr .int]
theorem df_Nc (G : zG) : ∀ j, j < 13 → defaultValue (t_Nc j) = vp_V (z0_Nc.mapIdx (zFld G (fun _ => 0))) j := df_gen G (fun j hj => by
  match j, hj with
  | 0, _ => exact ⟨rfl, Or.inr (Or.inr (Or.inr (Or.inr (Or.inl ⟨_, rfl⟩))))⟩
  | 1, _ => exact ⟨rfl, Or.inr (Or.inr (Or.inr (Or.inr (Or.inl ⟨_, rfl⟩))))⟩
  | 2, _ => exact ⟨rfl, Or.inr (Or.inr (Or.inr (Or.inr (Or.inl ⟨_, rfl⟩))))⟩
  | 3, _ => exact ⟨rfl, Or.inr (Or.inr (Or.inr (Or.inr (Or.inl ⟨_, rfl⟩))))⟩
  | 4, _ => exact ⟨rfl, Or.inr (Or.inr (Or.inr (Or.inr (Or.inl ⟨_, rfl⟩))))⟩
  | 5, _ => exact ⟨rfl, Or.inr (Or.inr (Or.inr (Or.inr (Or.inl ⟨_, rfl⟩))))⟩
  | 6, _ => exact ⟨rfl, Or.inr (Or.inr (Or.inr (Or.inr (Or.inl ⟨_, rfl⟩))))⟩
  | 7, _ => exact ⟨rfl, Or.inr (Or.inr (Or.inr (Or.inr (Or.inl ⟨_, rfl⟩))))⟩
  | 8, _ => exact ⟨rfl, Or.inr (Or.inr (Or.inr (Or.inr (Or.inl ⟨_, rfl⟩))))⟩
  | 9, _ => exact ⟨rfl, Or.inr (Or.inr (Or.inr (Or.inr (Or.inl ⟨_, rfl⟩))))⟩
  | 10, _ => exact ⟨rfl, Or.inl rfl⟩
  | 11, _ => exact ⟨rfl, Or.inl rfl⟩
  | 12, _ => exact ⟨rfl, Or.inl rfl⟩
  | j + 13, h => exact absurd h (by omega))
def z0_Md : List (Option Nat ⊕ FieldType) := [.inl none, .inr .int, .inr .int, .inr .int, .inr .int, .inl none, .inl none, .inl none, .inl none, .inl none, .inl none, .inr .int, .inr .int, .inr .int, .inr .int, .inr .int, .inr .int, .inr .int, .inr .int, .inr .int, .inr .int, .inr .long, .inl none, .inl none, .inl none, .inl none, .inl none, .inl none, .inl none, .inl none, .inl none, .inl none, .inl none, .inl none, .inl none, .inr .int, .inr .int, .inl none, .inl none, .inl none, .inl none, .inl none, .inl none, .inr .int, .inr .int, .inl none, .inl none, .inl none, .inl none, .inr .int]
theorem df_Md (G : zG) : ∀ j, j < 50 → defaultValue (t_Md j) = vp_V (z0_Md.mapIdx (zFld G (fun _ => 0))) j := df_gen G (fun j hj => by
  match j, hj with
  | 0, _ => exact ⟨rfl, Or.inr (Or.inr (Or.inr (Or.inr (Or.inr ⟨_, rfl⟩))))⟩
  | 1, _ => exact ⟨rfl, Or.inl rfl⟩
  | 2, _ => exact ⟨rfl, Or.inl rfl⟩
  | 3, _ => exact ⟨rfl, Or.inl rfl⟩
  | 4, _ => exact ⟨rfl, Or.inl rfl⟩
  | 5, _ => exact ⟨rfl, Or.inr (Or.inr (Or.inr (Or.inr (Or.inr ⟨_, rfl⟩))))⟩
  | 6, _ => exact ⟨rfl, Or.inr (Or.inr (Or.inr (Or.inr (Or.inr ⟨_, rfl⟩))))⟩
  | 7, _ => exact ⟨rfl, Or.inr (Or.inr (Or.inr (Or.inr (Or.inr ⟨_, rfl⟩))))⟩
  | 8, _ => exact ⟨rfl, Or.inr (Or.inr (Or.inr (Or.inr (Or.inr ⟨_, rfl⟩))))⟩
  | 9, _ => exact ⟨rfl, Or.inr (Or.inr (Or.inr (Or.inr (Or.inr ⟨_, rfl⟩))))⟩
  | 10, _ => exact ⟨rfl, Or.inr (Or.inr (Or.inr (Or.inr (Or.inr ⟨_, rfl⟩))))⟩
  | 11, _ => exact ⟨rfl, Or.inl rfl⟩
  | 12, _ => exact ⟨rfl, Or.inl rfl⟩
  | 13, _ => exact ⟨rfl, Or.inl rfl⟩
  | 14, _ => exact ⟨rfl, Or.inl rfl⟩
  | 15, _ => exact ⟨rfl, Or.inl rfl⟩
  | 16, _ => exact ⟨rfl, Or.inl rfl⟩
  | 17, _ => exact ⟨rfl, Or.inl rfl⟩
  | 18, _ => exact ⟨rfl, Or.inl rfl⟩
  | 19, _ => exact ⟨rfl, Or.inl rfl⟩
  | 20, _ => exact ⟨rfl, Or.inl rfl⟩
  | 21, _ => exact ⟨rfl, Or.inr (Or.inr (Or.inr (Or.inl rfl)))⟩
  | 22, _ => exact ⟨rfl, Or.inr (Or.inr (Or.inr (Or.inr (Or.inr ⟨_, rfl⟩))))⟩
  | 23, _ => exact ⟨rfl, Or.inr (Or.inr (Or.inr (Or.inr (Or.inr ⟨_, rfl⟩))))⟩
  | 24, _ => exact ⟨rfl, Or.inr (Or.inr (Or.inr (Or.inr (Or.inr ⟨_, rfl⟩))))⟩
  | 25, _ => exact ⟨rfl, Or.inr (Or.inr (Or.inr (Or.inr (Or.inr ⟨_, rfl⟩))))⟩
  | 26, _ => exact ⟨rfl, Or.inr (Or.inr (Or.inr (Or.inr (Or.inr ⟨_, rfl⟩))))⟩
  | 27, _ => exact ⟨rfl, Or.inr (Or.inr (Or.inr (Or.inr (Or.inr ⟨_, rfl⟩))))⟩
  | 28, _ => exact ⟨rfl, Or.inr (Or.inr (Or.inr (Or.inr (Or.inr ⟨_, rfl⟩))))⟩
  | 29, _ => exact ⟨rfl, Or.inr (Or.inr (Or.inr (Or.inr (Or.inr ⟨_, rfl⟩))))⟩
  | 30, _ => exact ⟨rfl, Or.inr (Or.inr (Or.inr (Or.inr (Or.inr ⟨_, rfl⟩))))⟩
  | 31, _ => exact ⟨rfl, Or.inr (Or.inr (Or.inr (Or.inr (Or.inr ⟨_, rfl⟩))))⟩
  | 32, _ => exact ⟨rfl, Or.inr (Or.inr (Or.inr (Or.inr (Or.inr ⟨_, rfl⟩))))⟩
  | 33, _ => exact ⟨rfl, Or.inr (Or.inr (Or.inr (Or.inr (Or.inr ⟨_, rfl⟩))))⟩
  | 34, _ => exact ⟨rfl, Or.inr (Or.inr (Or.inr (Or.inr (Or.inr ⟨_, rfl⟩))))⟩
  | 35, _ => exact ⟨rfl, Or.inl rfl⟩
  | 36, _ => exact ⟨rfl, Or.inl rfl⟩
  | 37, _ => exact ⟨rfl, Or.inr (Or.inr (Or.inr (Or.inr (Or.inr ⟨_, rfl⟩))))⟩
  | 38, _ => exact ⟨rfl, Or.inr (Or.inr (Or.inr (Or.inr (Or.inr ⟨_, rfl⟩))))⟩
  | 39, _ => exact ⟨rfl, Or.inr (Or.inr (Or.inr (Or.inr (Or.inr ⟨_, rfl⟩))))⟩
  | 40, _ => exact ⟨rfl, Or.inr (Or.inr (Or.inr (Or.inr (Or.inr ⟨_, rfl⟩))))⟩
  | 41, _ => exact ⟨rfl, Or.inr (Or.inr (Or.inr (Or.inr (Or.inr ⟨_, rfl⟩))))⟩
  | 42, _ => exact ⟨rfl, Or.inr (Or.inr (Or.inr (Or.inr (Or.inr ⟨_, rfl⟩))))⟩
  | 43, _ => exact ⟨rfl, Or.inl rfl⟩
  | 44, _ => exact ⟨rfl, Or.inl rfl⟩
  | 45, _ => exact ⟨rfl, Or.inr (Or.inr (Or.inr (Or.inr (Or.inr ⟨_, rfl⟩))))⟩
  | 46, _ => exact ⟨rfl, Or.inr (Or.inr (Or.inr (Or.inr (Or.inr ⟨_, rfl⟩))))⟩
  | 47, _ => exact ⟨rfl, Or.inr (Or.inr (Or.inr (Or.inr (Or.inr ⟨_, rfl⟩))))⟩
  | 48, _ => exact ⟨rfl, Or.inr (Or.inr (Or.inr (Or.inr (Or.inr ⟨_, rfl⟩))))⟩
  | 49, _ => exact ⟨rfl, Or.inl rfl⟩
  | j + 50, h => exact absurd h (by omega))
/-! WHAT IS MADE: rows of new, newarray, anewarray, putfield of references, aastore, invokespecial -/
theorem zW_cg {G : zG} {n : Nat} {sh sh' : Nat → zSh} {σ σ' : zSt} (h : ∀ k, k < n → sh k = sh' k ∧ σ k = σ' k) : zW G n sh σ = zW G n sh' σ' := by
  unfold zW
  apply List.map_congr_left
  intro k hk
  rw [List.mem_range] at hk
  rw [(h k hk).1, (h k hk).2]
theorem zu_zu {α : Type} (f : Nat → α) (k : Nat) (v w : α) : zu (zu f k v) k w = zu f k w := by
  funext j
  by_cases e : j = k
  · rw [e, zu_eq, zu_eq]
  · rw [zu_ne e, zu_ne e, zu_ne e]
theorem zu_id {α : Type} {f : Nat → α} {k : Nat} {v : α} (h : f k = v) : zu f k v = f := by
  funext j
  by_cases e : j = k
  · rw [e, zu_eq, h]
  · rw [zu_ne e]
theorem zE_setr {G : zG} {fl : List (Option Nat ⊕ FieldType)} {τ : Nat → Int} {j q : Nat} : (fl.mapIdx (zFld G τ)).set j (vr G q) = (fl.set j (.inl (some q))).mapIdx (zFld G τ) := by
  apply List.ext_getElem?
  intro i
  rw [List.getElem?_set, List.length_mapIdx, List.getElem?_mapIdx, List.getElem?_mapIdx, List.getElem?_set]
  by_cases hi : j = i
  · subst hi
    rw [if_pos rfl, if_pos rfl]
    by_cases hl : j < fl.length
    · rw [if_pos hl, if_pos hl]; rfl
    · rw [if_neg hl, if_neg hl]; rfl
  · rw [if_neg hi, if_neg hi]
section GO
variable {G : zG} {X : zX} {M : zM} {κ : zK} {n : Nat} {sh sh' : Nat → zSh} {σ : zSt} {pc : Nat} {L L' : List (Nat × Value)} {st : List Value} {post : zPost}
/-- only the shapes of cells that are there count -/
theorem g_sh (h : ∀ k, k < n → sh k = sh' k) (kk : Go G X M κ n sh' σ pc L st post) : Go G X M κ n sh σ pc L st post := fun C H locs ls h1 h2 h3 h4 => kk C H locs ls h1 (by rw [← zW_cg (fun k hk => ⟨h k hk, rfl⟩)]; exact h2) h3 h4
theorem g_sz {st0 : List Value} (kk : zCx G X M κ → ∀ (H : Heap) (locs : List Loc) (ls : Array Slot), X.2.2.1.heap.size + κ.2.1 = G.2.1 + n → va_P (zD G) zcl (zW G n sh σ) H → va_S (zA G) X.2.2.1.heap H locs → lv_has ls M.2.2.1 L → H.size = G.2.1 + n →
    W X.1 G.1 X.2.1 (zR κ.1 κ.2.2.2.1 κ.2.2.2.2) X.2.2.1 X.2.2.2.1 X.2.2.2.2.1 X.2.2.2.2.2.1 X.2.2.2.2.2.2.1 X.2.2.2.2.2.2.2 H locs κ.2.1 κ.2.2.1 (MQ X.2.2.2.2.2.1 (zQ G post) X.2.2.2.2.1 X.2.2.1 κ.2.2.2.1 κ.2.2.2.2 (zA G)) (F0 X.2.2.2.1 pc ls st0)) : Go G X M κ n sh σ pc L st0 post := fun C H locs ls h1 h2 h3 h4 T hT Xs => kk C H locs ls h1 h2 h3 h4 (z_size h1 h2 h3 C.2.2.2.2.2.2.2.2.2.2 hT Xs) T hT Xs
theorem g_new {x ci N : Nat} {CC : String} {T : u_T} {ty : Nat → FieldType} {fl : List (Option Nat ⊕ FieldType)} (hf : zFO ci CC T N ty) (hlk : Cond.classLink M.2.1 x CC ∈ zT) (hin : Cond.instantiable CC N ∈ zT) (hini : Cond.initialized CC ∈ zT) (hfs : ∀ j, j < N → defaultValue (ty j) = vp_V (fl.mapIdx (zFld G (fun _ => 0))) j) (hd : decode M.1 pc = .ok (.new x, 3)) (hs : sh n = .inl (ci, fl)) (hz : σ n = fun _ => 0) (hκ : κ.2.1 + 1 ≤ κ.2.2.2.1 ∧ κ.2.2.1 + N ≤ κ.2.2.2.2)
    (kk : Go G X M (κ.1, κ.2.1 + 1, κ.2.2.1 + N, κ.2.2.2.1, κ.2.2.2.2) (n + 1) sh σ (pc + 3) L (vr G n :: st) post) : Go G X M κ n sh σ pc L st post := g_sz (fun C H locs ls h1 h2 h3 h4 hsz => by
  obtain ⟨f1, f2, f3, f4⟩ := hf
  have hts := C.2.2.2.2.1
  have hKn := C.2.2.2.2.2.2.2.2.1.1 ci _ f1
  refine W.newcK C.1 C.2.1 C.2.2.2.1 (hts _ hlk) (hts _ hin) (hts _ hini) rfl hd hκ.1 hκ.2 hKn.2.1 hsz (fun H1 kC hkC e1 z1 o1 => ?_)
  have hk : ∀ (k : Nat) (x : Nat × va_E), (zW G n sh σ)[k]? = some x → H1[x.1]? = H[x.1]? := fun k x hx => o1 x.1 (by rw [← hsz]; exact (h2 k x hx).lt)
  have hP : va_P (zD G) zcl (zW G n sh σ ++ [(G.2.1 + n, .inr (ci, fl.mapIdx (zFld G (fun _ => 0))))]) H1 := (va_P.kept h2 hk).app (fun k x hx => by
    have hz : k < 1 := (List.getElem?_eq_some_iff.mp hx).1
    rw [show k = 0 by omega] at hx
    cases hx
    exact ⟨_, f1, (u_born ty hts f2 hKn hkC e1 f3).to hfs⟩)
  rw [zW_push (sh' := sh) (σ' := σ) (by rw [hs, hz]; rfl) (fun _ _ => rfl) (fun _ _ => rfl)] at hP
  exact kk C H1 locs ls (by show _ + (κ.2.1 + 1) = _; omega) hP ⟨Nat.le_trans h3.1 (by omega), fun x g1 g2 => (o1 x (by have := h3.1; omega)).trans (h3.2.1 x g1 g2), h3.2.2⟩ h4)
theorem g_newa {atype : ArrayType} {a N : Nat} {v : Int} {t : FieldType} (ht : newarray.typeOf atype = t) (hta : (zTy G)[a]? = some (G.2.2.2.2.1 a, t)) (hra : ∀ (U : State) (cA : ClassId), va_RA U cA t → U.vm.findClass ("[" ++ t.toString) = some cA) (harr : Cond.arrayClass t ∈ zT) (hce : vp_cell (G.2.2.2.2.1 a) (N, if a = 1 then .inr (.inl (fun _ => Int64.ofInt 0)) else if a < 4 then .inl (fun _ => Int32.ofInt 0) else .inr (.inr (.inr (.inr (fun i => (zn i).map (fun k => G.2.1 + k)))))) = arrV (G.2.2.2.2.1 a) N (fun _ => defaultValue t)) (hd : decode M.1 pc = .ok (.newarray atype, 2)) (hv : v = (N : Int)) (hN : N ≤ 10000) (hb : componentBytes t ≤ 8) (hs : sh n = .inr (a, N, zn)) (hz : σ n = fun _ => 0) (hκ : κ.2.1 + 1 ≤ κ.2.2.2.1 ∧ κ.2.2.1 + N ≤ κ.2.2.2.2)
    (kk : Go G X M (κ.1, κ.2.1 + 1, κ.2.2.1 + N, κ.2.2.2.1, κ.2.2.2.2) (n + 1) sh σ (pc + 2) L (vr G n :: st) post) : Go G X M κ n sh σ pc L (vi v :: st) post := g_sz (fun C H locs ls h1 h2 h3 h4 hsz => by
  have hts := C.2.2.2.2.1
  have hK2 := C.2.2.2.2.2.2.2.2.1.2 a _ hta
  have hn0 : ¬ Int32.ofInt v < 0 := by
    have := (zi_lt (a := v) (b := 0) ⟨by omega, by omega⟩ ⟨by decide, by decide⟩)
    intro h
    have := this.mp h
    omega
  subst ht
  have hbb : N * componentBytes (newarray.typeOf atype) ≤ 536870912 := Nat.le_trans (Nat.mul_le_mul hN hb) (by decide)
  refine va_newaK C.1 C.2.1 (hts _ harr) rfl hd rfl hn0 (zi_cl hv (by omega)) hbb hκ.1 hκ.2 hsz (fun H1 cA e1 z1 o1 hAr hNm => ?_)
  have ec : cA = G.2.2.2.2.1 a := Option.some.inj (hNm.symm.trans (hra _ _ hK2.2))
  have hk : ∀ (k : Nat) (x : Nat × va_E), (zW G n sh σ)[k]? = some x → H1[x.1]? = H[x.1]? := fun k x hx => o1 x.1 (by rw [← hsz]; exact (h2 k x hx).lt)
  have hP : va_P (zD G) zcl (zW G n sh σ ++ [(G.2.1 + n, .inl (G.2.2.2.2.1 a, N, if a = 1 then .inr (.inl (fun _ => Int64.ofInt 0)) else if a < 4 then .inl (fun _ => Int32.ofInt 0) else .inr (.inr (.inr (.inr (fun i => (zn i).map (fun k => G.2.1 + k)))))))]) H1 := (va_P.kept h2 hk).app (fun k x hx => by
    have hz : k < 1 := (List.getElem?_eq_some_iff.mp hx).1
    rw [show k = 0 by omega] at hx
    cases hx
    show H1[G.2.1 + n]? = some (vp_cell _ _)
    rw [hce, ← ec]
    exact e1)
  rw [zW_push (sh' := sh) (σ' := σ) (by rw [hs, hz]; rfl) (fun _ _ => rfl) (fun _ _ => rfl)] at hP
  exact kk C H1 locs ls (by show _ + (κ.2.1 + 1) = _; omega) hP ⟨Nat.le_trans h3.1 (by omega), fun x g1 g2 => (o1 x (by have := h3.1; omega)).trans (h3.2.1 x g1 g2), h3.2.2⟩ h4)
theorem g_anew {a N x : Nat} {v : Int} {CC : String} (hta : (zTy G)[a]? = some (G.2.2.2.2.1 a, .object CC)) (ha : a = 4 ∨ a = 5) (hlk : Cond.classLink M.2.1 x CC ∈ zT) (hAO : ∀ U H, zS G U H → va_AO CC U) (hd : decode M.1 pc = .ok (.anewarray x, 3)) (hv : v = (N : Int)) (hN : N ≤ 10000) (hs : sh n = .inr (a, N, zn)) (hκ : κ.2.1 + 1 ≤ κ.2.2.2.1 ∧ κ.2.2.1 + N ≤ κ.2.2.2.2)
    (kk : Go G X M (κ.1, κ.2.1 + 1, κ.2.2.1 + N, κ.2.2.2.1, κ.2.2.2.2) (n + 1) sh σ (pc + 3) L (vr G n :: st) post) : Go G X M κ n sh σ pc L (vi v :: st) post := g_sz (fun C H locs ls h1 h2 h3 h4 hsz => by
  have hts := C.2.2.2.2.1
  have hK2 := C.2.2.2.2.2.2.2.2.1.2 a _ hta
  have hn0 : ¬ Int32.ofInt v < 0 := by
    have := (zi_lt (a := v) (b := 0) ⟨by omega, by omega⟩ ⟨by decide, by decide⟩)
    intro h
    have := this.mp h
    omega
  have hcl := zi_cl hv (show N < 2147483648 by omega)
  refine W.anew C.1 C.2.1 C.2.2.2.1 (hts _ hlk) (va_AO.use (hAO _ _ C.2.2.2.2.2.2.2.2.2.1)) rfl hd rfl hn0 (by rw [hcl]; omega) hκ.1 (by rw [hcl]; exact hκ.2) (fun cA kA comp f1 f2 f3 f4 => ?_)
  rw [hcl]
  obtain ⟨_, _, _, _, _, k4⟩ := hK2.2
  have ec : cA = G.2.2.2.2.1 a := Option.some.inj (f1.symm.trans k4)
  generalize hH1 : H.push ({ cls := cA, slots := Array.replicate N .null, vm := .none } : Cell) = H1
  have z1 : H1.size = H.size + 1 := by rw [← hH1, Array.size_push]
  have e1 : H1[H.size]? = some (arrV cA N (fun _ => .null)) := by rw [← hH1, Array.getElem?_push_size, ← arrV_new]
  have o1 : ∀ q : Nat, q < H.size → H1[q]? = H[q]? := fun q hq => by rw [← hH1, Array.getElem?_push, if_neg (Nat.ne_of_lt hq)]
  have hk : ∀ (k : Nat) (x : Nat × va_E), (zW G n sh σ)[k]? = some x → H1[x.1]? = H[x.1]? := fun k x hx => o1 x.1 (h2 k x hx).lt
  have hP : va_P (zD G) zcl (zW G n sh σ ++ [(G.2.1 + n, .inl (G.2.2.2.2.1 a, N, .inr (.inr (.inr (.inr (fun _ => none))))))]) H1 := (va_P.kept h2 hk).app (fun k x hx => by
    have hz : k < 1 := (List.getElem?_eq_some_iff.mp hx).1
    rw [show k = 0 by omega] at hx
    cases hx
    show H1[G.2.1 + n]? = some (vp_cell _ _)
    rw [← hsz, ← ec, e1]
    rfl)
  rw [zW_push (sh' := sh) (σ' := σ) (by rw [hs]; rcases ha with rfl | rfl <;> rfl) (fun _ _ => rfl) (fun _ _ => rfl)] at hP
  rw [hsz]
  exact kk C H1 locs ls (by show _ + (κ.2.1 + 1) = _; omega) hP ⟨Nat.le_trans h3.1 (by omega), fun x g1 g2 => (o1 x (by have := h3.1; omega)).trans (h3.2.1 x g1 g2), h3.2.2⟩ h4)
/-- a reference into a final field, in a constructor -/
theorem g_putF {x ci j k q : Nat} {ty : FieldType} {fl fl' : List (Option Nat ⊕ FieldType)} (hf : zFL M.2.1 x ci j true ty) (hd : decode M.1 pc = .ok (.putfield x, 3)) (hi : M.2.2.2.2 = "<init>") (hc : (zcl[ci]?).map (·.1) = some M.2.1) (hk : k < n) (hs : sh k = .inl (ci, fl)) (hj : j < fl.length) (hfl : fl.set j (.inl (some q)) = fl') (hn : narrow ty (vr G q) = vr G q) (hfit : fits ty (vr G q) = true) (kk : Go G X M κ n (zu sh k (.inl (ci, fl'))) σ (pc + 3) L st post) : Go G X M κ n sh σ pc L (vr G q :: vr G k :: st) post := fun C H locs ls h1 h2 h3 h4 => by
  obtain ⟨CC, T, N, tyf, ⟨f1, f2, f3, f4⟩, hN, hlk, hfin, hty, hdc⟩ := hf
  rw [f1] at hc
  have hc : CC = M.2.1 := Option.some.inj hc
  have hD := zW_D G n sh σ
  have hj' : j < (fl.mapIdx (zFld G (σ k))).length := by rw [List.length_mapIdx]; exact hj
  refine va_putF (D := zD G) (ci := ci) (v := vr G q) (ty := ty) C.1 C.2.1 C.2.2.2.2.1 f2 tyf f3 f4 C.2.2.2.1 C.2.2.2.2.2.2.2.2.1 h2 hD h3 k (fs := fl.mapIdx (zFld G (σ k))) (by rw [zW_get hk, hs]; rfl) f1 j hN (C.2.2.2.2.1 _ hlk) (fun _ h9 => h9) hfin (by rw [C.2.2.2.2.2.2.2.1]; exact hi) (by rw [hdc, hc]) (by rw [f3 j hN, hty]) hn hfit hj' hd (fun H1 locs1 hP hD1 hS1 => ?_)
  have e : (zW G n sh σ).set k (G.2.1 + k, .inr (ci, (fl.mapIdx (zFld G (σ k))).set j (vr G q))) = zW G n (zu sh k (.inl (ci, fl'))) σ := by
    refine zW_set hk ?_ (fun i hi => zu_ne hi) (fun _ _ => rfl)
    rw [zE_setr, hfl, zu_eq]; rfl
  rw [e] at hP
  exact kk C H1 locs1 ls h1 hP hS1 h4
theorem g_aast {a k q N j ci : Nat} {g : Nat → Option Nat} {fl : List (Option Nat ⊕ FieldType)} {i : Int} {r : vw_C} (hd : decode M.1 pc = .ok (.aastore, 1)) (hk : k < n) (hs : sh k = .inr (a, N, g)) (ha : a = 4 ∨ a = 5) (hta : (zTy G)[a]? = some (G.2.2.2.2.1 a, .object r.1)) (hq : q < n) (hsq : sh q = .inl (ci, fl)) (hc : zcl[ci]? = some r) (hi : i = (j : Int)) (hj : j < N) (hN : N < 2147483648) (kk : Go G X M κ n (zu sh k (.inr (a, N, zu g j (some q)))) σ (pc + 1) L st post) : Go G X M κ n sh σ pc L (vr G q :: vi i :: vr G k :: st) post := fun C H locs ls h1 h2 h3 h4 => by
  refine va_astq C.1 C.2.1 C.2.2.2.2.2.2.2.2.1 h2 (zW_D G n sh σ) h3 k a q ci (f := fun i => (g i).map (fun k => G.2.1 + k)) (vs := fl.mapIdx (zFld G (σ q))) (by rw [zW_get hk, hs]; rcases ha with rfl | rfl <;> rfl) hta (by rw [zW_get hq, hsq]; rfl) hc (zi_in hi hj hN) hd (fun H1 locs1 hP _ hS1 => ?_)
  have e : (zW G n sh σ).set k (G.2.1 + k, .inl (G.2.2.2.2.1 a, N, .inr (.inr (.inr (.inr (va_up (fun i => (g i).map (fun k => G.2.1 + k)) (Int32.ofInt i).toNatClampNeg (some (G.2.1 + q)))))))) = zW G n (zu sh k (.inr (a, N, zu g j (some q)))) σ := by
    refine zW_set hk ?_ (fun i hi => zu_ne hi) (fun _ _ => rfl)
    rw [zu_eq, zi_cl hi (by omega)]
    have ef : va_up (fun i => (g i).map (fun k => G.2.1 + k)) j (some (G.2.1 + q)) = fun i => (zu g j (some q) i).map (fun k => G.2.1 + k) := by
      funext b
      by_cases e : b = j
      · rw [e, va_up_self, zu_eq]; rfl
      · rw [va_up_ne _ _ e, zu_ne e]
    rw [ef]
    rcases ha with rfl | rfl <;> rfl
  rw [e] at hP
  exact kk C H1 locs1 ls h1 hP hS1 h4
/-- Object's constructor -/
theorem g_obj {k x : Nat} (hl : Cond.methodLink M.2.1 x Lib.objectInit ∈ zT) (hd : decode M.1 pc = .ok (.invokespecial x, 3)) (hw : (st.map fun v => v.category).sum ≤ 8) (hR : 1 ≤ κ.1) (kk : Go G X M κ n sh σ (pc + 3) L st post) : Go G X M κ n sh σ pc L (vr G k :: st) post := fun C H locs ls h1 h2 h3 h4 => by
  have hts := C.2.2.2.2.1
  refine W.objInit C.1 C.2.1 C.2.2.2.1 (hts _ hl) (hts _ zob_i) (hts _ zob_c) rfl (h4.1.trans C.2.2.1.symm) rfl hd hR ?_ (kk C H locs ls h1 h2 h3 h4)
  have := lv_room (m := X.2.2.2.1) (pc := pc) (ls := ls) (rest := vr G k :: st) hw
  show _ + 12 ≤ 64 * κ.1
  omega
/-- a constructor's call -/
theorem g_callI {y : MethodName} {M' : zM} {d mc ms na k x : Nat} {As : List Value} {post' : zPost} {st0 : List Value} (hm : Gm G y M' d mc ms (vr G k :: As) n sh σ post') (hy : zCalI y M' na) (hl : Cond.methodLink M.2.1 x y ∈ zT) (hd : decode M.1 pc = .ok (.invokespecial x, 3)) (hn : As.length = na) (hst : st0 = As.reverse ++ vr G k :: st) (hw : (st.map fun v => v.category).sum ≤ 8) (hR : d + 1 ≤ κ.1) (hmc : κ.2.1 + mc ≤ κ.2.2.2.1 ∧ κ.2.2.1 + ms ≤ κ.2.2.2.2)
    (kk : ∀ (r : Option Value) (n' : Nat) (sh' : Nat → zSh) (σ' : zSt), post' r n' sh' σ' → n' = n + mc ∧ Go G X M (κ.1, κ.2.1 + mc, κ.2.2.1 + ms, κ.2.2.2.1, κ.2.2.2.2) n' sh' σ' (pc + 3) L (r.toList ++ st) post) : Go G X M κ n sh σ pc L st0 post := by
  refine g_run (a := (vr G k :: As).toArray) (mc := mc) (ms := ms) (post' := post') (fun C H locs ls h1 h2 h3 h4 => ?_) kk
  intro T hT Xs
  have hsz := z_size h1 h2 h3 C.2.2.2.2.2.2.2.2.2.2 hT Xs
  obtain ⟨⟨hcode, hini, hdd, hml⟩, hinst, hnm, hret⟩ := hy
  have hts := C.2.2.2.2.1
  have cw : CallB (zR κ.1 κ.2.2.2.1 κ.2.2.2.2) X.2.2.1 X.2.2.2.2.1 M.2.1 x y M'.1 M'.2.2.1 none (zws y M') (zR d mc ms) mc ms na ∧ y.name = "<init>" ∧ (Cond.instanceMethod y).before X.2.2.2.2.1 X.2.2.1 = true :=
    ⟨callB_of (ws' := zT) na hts (zws_good hcode) (by unfold zws; rw [hret]) rfl rfl (hts _ hini) (hts _ hl) hdd ⟨hR, by show 8 + (M'.2.2.1 + 11) + 64 * d ≤ 64 * κ.1; omega⟩, hnm, hts _ hinst⟩
  exact va_runI ⟨C.1, C.2.1, C.2.2.1, C.2.2.2.1, hts⟩ hm cw ⟨zWd_blind G n sh σ _, zPre C hsz h2 h3⟩ rfl hn h4.1 hst (lv_room hw) hd ⟨hmc.1, hmc.2⟩ T hT Xs
theorem g_callIN {y : MethodName} {M' : zM} {d mc ms na k x : Nat} {As : List Value} {post' : zPost} {st0 : List Value} (hm : Gm G y M' d mc ms (vr G k :: As) n sh σ post') (hy : zCalI y M' na) (hl : (M.2.1, x, y, "NestedClips") ∈ zNm) (hd : decode M.1 pc = .ok (.invokespecial x, 3)) (hn : As.length = na) (hst : st0 = As.reverse ++ vr G k :: st) (hw : (st.map fun v => v.category).sum ≤ 8) (hR : d + 1 ≤ κ.1) (hmc : κ.2.1 + mc ≤ κ.2.2.2.1 ∧ κ.2.2.1 + ms ≤ κ.2.2.2.2)
    (kk : ∀ (r : Option Value) (n' : Nat) (sh' : Nat → zSh) (σ' : zSt), post' r n' sh' σ' → n' = n + mc ∧ Go G X M (κ.1, κ.2.1 + mc, κ.2.2.1 + ms, κ.2.2.2.1, κ.2.2.2.2) n' sh' σ' (pc + 3) L (r.toList ++ st) post) : Go G X M κ n sh σ pc L st0 post := by
  refine g_run (a := (vr G k :: As).toArray) (mc := mc) (ms := ms) (post' := post') (fun C H locs ls h1 h2 h3 h4 => ?_) kk
  intro T hT Xs
  have hsz := z_size h1 h2 h3 C.2.2.2.2.2.2.2.2.2.2 hT Xs
  obtain ⟨⟨hcode, hini, hdd, hml⟩, hinst, hnm, hret⟩ := hy
  have hts := C.2.2.2.2.1
  have hlk : va_Nw (.methodLinkNest M.2.1 x y "NestedClips") X.2.2.1 := C.2.2.2.2.2.2.2.2.2.1.2.2.2.2.1 _ hl
  have cw : va_CN (zR κ.1 κ.2.2.2.1 κ.2.2.2.2) X.2.2.1 X.2.2.2.2.1 M.2.1 x y "NestedClips" M'.1 M'.2.2.1 none (zws y M') (zR d mc ms) mc ms na ∧ y.name = "<init>" ∧ (Cond.instanceMethod y).before X.2.2.2.2.1 X.2.2.1 = true :=
    ⟨va_cnB (ws' := zT) na hts (zws_good hcode) (by unfold zws; rw [hret]) rfl rfl hlk (hts _ hini) hdd ⟨hR, by show 8 + (M'.2.2.1 + 11) + 64 * d ≤ 64 * κ.1; omega⟩, hnm, hts _ hinst⟩
  exact va_runIN ⟨C.1, C.2.1, C.2.2.1, C.2.2.2.1, hts⟩ hm cw ⟨zWd_blind G n sh σ _, zPre C hsz h2 h3⟩ rfl hn h4.1 hst (lv_room hw) hd ⟨hmc.1, hmc.2⟩ T hT Xs
end GO
