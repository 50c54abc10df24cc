class Check {}
