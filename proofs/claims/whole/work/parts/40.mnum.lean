/-! the reference's numbers: printed by wip/whole/s40.py -/
/-- a fraction brought down -/
def lowF (n d : Int) : Int × Int := if d < 0 then (-(n.tdiv (Int.gcd n d)), -(d.tdiv (Int.gcd n d))) else (n.tdiv (Int.gcd n d), d.tdiv (Int.gcd n d))
def smallF (q : Int × Int) : Bool := decide (-1073741824 ≤ q.1) && (decide (q.1 ≤ 1073741824) && decide (q.2 ≤ 1073741824))
theorem smallF_iff (q : Int × Int) : smallF q = true ↔ -1073741824 ≤ q.1 ∧ q.1 ≤ 1073741824 ∧ q.2 ≤ 1073741824 := by simp [smallF]
theorem b01 {x : Int} {c : Bool} (h : x = if c then 1 else 0) : x = 0 ∨ x = 1 := by subst h; cases c <;> simp
