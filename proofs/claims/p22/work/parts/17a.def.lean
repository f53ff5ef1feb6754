/-! THE TABLES are as the Statement has them -/
def ilL (b : ByteArray) (l : List (Nat × (Instr × Nat))) : Bool := l.all (fun q => decide (decode b q.1 = .ok q.2))
def ilOK (M : eM) : Bool := ilL (m_b M) (m_il M)
def mOKb (M : eM) : Bool := decide (Cond.code (m_y M) (m_b M) (m_L M) (m_t M) ∈ lw_tbl) && plainName (m_y M).cls && decide ((m_y M).cls ≠ "java/lang/invoke/MethodHandle") && decide ((m_y M).cls ≠ "java/lang/invoke/VarHandle") && decide ((parseMethodDescriptor (m_y M).desc).map (fun d => d.parameters.length) = some (m_n M)) && Nat.ble (m_L M) 40 && decide (oNm[m_o M]? = some (m_y M).cls) && ilOK M
def fOKb (own : String) (q : Nat × (Nat × Nat × Nat)) : Bool := match q.2.1 with
  | 0 => (match classes[q.2.2.1]? with
    | some (C, T, N) => decide (q.2.2.2 < N) && decide (Cond.fieldLink own q.1 C (T q.2.2.2).2.1 (T q.2.2.2).2.2.1 ∈ lw_tbl)
    | none => false)
  | 1 => (match classes[q.2.2.1]? with
    | some (C, T, N) => decide (q.2.2.2 < N) && decide (Cond.fieldLinkNest own q.1 C (T q.2.2.2).2.1 (T q.2.2.2).2.2.1 "TwoMouths" ∈ lw_tbl)
    | none => false)
  | 3 => decide (Cond.fieldLink own q.1 "jdk/internal/util/Preconditions" "SIOOBE_FORMATTER" "Ljava/util/function/BiFunction;" ∈ lw_tbl)
  | _ => (match q.2.2.1 with
    | 0 => decide (Cond.fieldLink own q.1 "java/lang/String" "COMPACT_STRINGS" "Z" ∈ lw_tbl)
    | 1 => decide (Cond.fieldLink own q.1 "java/lang/String" "value" "[B" ∈ lw_tbl)
    | _ => decide (Cond.fieldLink own q.1 "java/lang/String" "coder" "B" ∈ lw_tbl))
def mOKl (own : String) (q : Nat × (Nat × Nat)) : Bool := match q.2.1 with
  | 6 => decide (Cond.methodLink own q.1 Lib.objectInit ∈ lw_tbl)
  | 7 => decide (Cond.methodLink own q.1 arraycopyName ∈ lw_tbl)
  | 8 => decide (Cond.methodLink own q.1 Lib.Math.max.name ∈ lw_tbl)
  | 9 => decide (Cond.methodLink own q.1 Lib.Math.min.name ∈ lw_tbl)
  | k => (match eMT[q.2.2]? with
    | none => false
    | some M => decide (Cond.initialized (m_y M).cls ∈ lw_tbl) && (match k with
      | 0 => decide (Cond.methodLink own q.1 (m_y M) ∈ lw_tbl) && decide (Cond.static (m_y M) ∈ lw_tbl)
      | 1 => decide (Cond.methodLink own q.1 (m_y M) ∈ lw_tbl) && decide (Cond.instanceMethod (m_y M) ∈ lw_tbl) && decide ((m_y M).name = "<init>")
      | 2 => decide (Cond.methodLink own q.1 (m_y M) ∈ lw_tbl) && decide (Cond.instanceMethod (m_y M) ∈ lw_tbl) && decide (Cond.selects (m_y M).cls (m_y M) (m_y M) ∈ lw_tbl)
      | 3 => decide (Cond.methodLinkNest own q.1 (m_y M) "TwoMouths" ∈ lw_tbl) && decide (Cond.static (m_y M) ∈ lw_tbl)
      | 4 => decide (Cond.methodLinkNest own q.1 (m_y M) "TwoMouths" ∈ lw_tbl) && decide (Cond.instanceMethod (m_y M) ∈ lw_tbl) && decide ((m_y M).name = "<init>")
      | 5 => decide (Cond.methodLinkNest own q.1 (m_y M) "TwoMouths" ∈ lw_tbl) && decide (Cond.instanceMethod (m_y M) ∈ lw_tbl) && decide (Cond.selects (m_y M).cls (m_y M) (m_y M) ∈ lw_tbl)
      | _ => false))
def cOKb (own : String) (q : Nat × Nat) : Bool := match classes[q.2]? with
  | some (C, _, _) => decide (Cond.classLink own q.1 C ∈ lw_tbl)
  | none => false
def jOKb (own : String) (q : Nat × Int) : Bool := decide (Cond.constantLong own q.1 (Int64.ofInt q.2) ∈ lw_tbl) && decide ((Int64.ofInt q.2).toInt = q.2)
def iOKb (own : String) (q : Nat × Int) : Bool := decide (Cond.constant own q.1 (Int32.ofInt q.2) ∈ lw_tbl)
theorem all_app {α : Type} {p : α → Bool} {a b : List α} (h1 : a.all p = true) (h2 : b.all p = true) : (a ++ b).all p = true := by rw [List.all_append, h1, h2]; rfl
