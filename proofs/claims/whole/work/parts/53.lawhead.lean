/-! the law's end -/
def R_law : String := "BallotHouseLaw"
