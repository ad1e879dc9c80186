def rEx2 {σ : Type} (r : (Nat × σ) ⊕ (Int32 × σ)) : Option String := match r with
  | .inl k => some (exN k.1)
  | .inr _ => none
def rVal2 {σ : Type} (r : (Nat × σ) ⊕ (Int32 × σ)) : Option Int32 := match r with
  | .inl _ => none
  | .inr q => some q.1
def rSt2 {σ : Type} (r : (Nat × σ) ⊕ (Int32 × σ)) : σ := match r with
  | .inl k => k.2
  | .inr q => q.2
abbrev MetX2 {σ : Type} (γ : Nat → Nat) (l : Launch) (y : MethodName) (ws : List Cond) (rm : Room) (av : List Value) (D : va_G) (w w' : va_W) (tys : List (ClassId × FieldType)) (res : (Nat × σ) ⊕ (Int32 × σ)) (mc ms : Nat) : Prop :=
  ∀ sz : Nat, vx_Met l y ws rm (va_Pc av (cPre γ D w tys sz)) (QX D (va_A w sz) w' tys (rVal2 res)) (XX D (va_A w sz) w' tys (rEx2 res)) mc ms (va_A w sz)
