/-- how often a loop may go round, at most: more than any does -/
def FU : Nat := 100000
